/-- LetterPostModel.waitAll(IIII)V -/
def wM_waitAll_96 (Q : e3_H → e3_G → Prop) (k46 : Int → Int → Int → Int → e3_H → e3_G → Prop) (l3 : Int) (l4 : Int) (l6 : Int) (l7 : Int) (l8 : Int) (s0 : Int) (H : e3_H) (G : e3_G) : Prop :=
  ((0 : Int) ≤ l8 ∧ (l8 : Int) < 1700) ∧ (((H 55 l8) : Int) ≠ 0) ∧ (wM_wait0 (fun H3 G4 => ((0 : Int) ≤ l8 ∧ (l8 : Int) < 1700) ∧ (((H3 55 l8) : Int) ≠ 0) ∧ (k46 l3 l4 (e3_div l6 (H3 55 l8)) (e3_w32 (l7 + (-1))) H3 G4)) l8 (e3_rem l6 (H 55 l8)) (e3_w32 ((e3_w32 ((e3_w32 (8 * l3)) + l7)) + 1)) s0 H G)
def wM_waitAll_46 (Q : e3_H → e3_G → Prop) : Nat → Int → Int → Int → Int → e3_H → e3_G → Prop
  | 0, _, _, _, _, _, _ => False
  | nn + 1, l3, l4, l6, l7, H, G => (((l7 : Int) < 0 → Q H G) ∧ (¬ ((l7 : Int) < 0) → ((0 : Int) ≤ l7 ∧ (l7 : Int) < 1700) ∧ (((l4 : Int) < 0 → (wM_waitAll_96 Q (fun l3 l4 l6 l7 H G => wM_waitAll_46 Q nn l3 l4 l6 l7 H G) l3 l4 l6 l7 (H 98 l7) (-4) H G)) ∧ (¬ ((l4 : Int) < 0) → (((l3 : Int) = 0 → ((0 : Int) ≤ l7 ∧ (l7 : Int) < 3) ∧ (wM_waitAll_96 Q (fun l3 l4 l6 l7 H G => wM_waitAll_46 Q nn l3 l4 l6 l7 H G) l3 l4 l6 l7 (H 98 l7) (H 135 l7) H G)) ∧ (¬ ((l3 : Int) = 0) → ((0 : Int) ≤ (e3_w32 ((e3_w32 (4 * l4)) + l7)) ∧ ((e3_w32 ((e3_w32 (4 * l4)) + l7)) : Int) < 640) ∧ (wM_waitAll_96 Q (fun l3 l4 l6 l7 H G => wM_waitAll_46 Q nn l3 l4 l6 l7 H G) l3 l4 l6 l7 (H 98 l7) (H 132 (e3_w32 ((e3_w32 (4 * l4)) + l7))) H G)))))))
def wM_waitAll_6 (Q : e3_H → e3_G → Prop) : Nat → Int → Int → Int → Int → Int → e3_H → e3_G → Prop
  | 0, _, _, _, _, _, _, _ => False
  | nn + 1, l2, l3, l4, l5, l6, H, G => (((l6 : Int) = (-4) → (∃ n, wM_waitAll_46 Q n l3 l4 l2 (e3_w32 (l5 - 1)) H G)) ∧ (¬ ((l6 : Int) = (-4)) → ((0 : Int) ≤ l5 ∧ (l5 : Int) < 1700) ∧ ∀ H1 : e3_H, H1 = e3_up H 98 l5 l6 → ((0 : Int) ≤ l6 ∧ (l6 : Int) < 1700) ∧ (wM_waitAll_6 Q nn l2 l3 l4 (e3_w32 (l5 + 1)) (H1 52 l6) H1 G)))
def wM_waitAll (Q : e3_H → e3_G → Prop) (l1 : Int) (l2 : Int) (l3 : Int) (l4 : Int) (H : e3_H) (G : e3_G) : Prop :=
  (∃ n, wM_waitAll_6 Q n l2 l3 l4 0 l1 H G)
set_option maxRecDepth 100000 in
set_option maxHeartbeats 4000000 in
theorem sM_waitAll_96 (L : Nat) (xs : Nat → Int32) (Q : e3_H → e3_G → Prop) (k46 : Int → Int → Int → Int → e3_H → e3_G → Prop) (hk46 : ∀ (l3 : Int) (l4 : Int) (l6 : Int) (l7 : Int) (H : e3_H) (G : e3_G), k46 l3 l4 l6 l7 H G → e3_Ev (wB L xs) 1 24 245 46 [(2, 40), (3, 0), (3, 0), (0, l3), (0, l4), (3, 0), (0, l6), (0, l7), (3, 0), (3, 0)] [] H G (e3_qv Q)) (l3 : Int) (l4 : Int) (l6 : Int) (l7 : Int) (l8 : Int) (s0 : Int) (H : e3_H) (G : e3_G) (h : wM_waitAll_96 Q k46 l3 l4 l6 l7 l8 s0 H G) : e3_Ev (wB L xs) 1 24 245 96 [(2, 40), (3, 0), (3, 0), (0, l3), (0, l4), (3, 0), (0, l6), (0, l7), (0, l8), (3, 0)] [(0, s0)] H G (e3_qv Q) := by
  unfold wM_waitAll_96 at h
  obtain ⟨o1, o2, h⟩ := h
  refine e3_K [0, 0, 0, 0, 0, 4, 0, 2, 1, 0, 0, 0, 0, 0, 0, 0, 0] 122 [(2, 40), (3, 0), (3, 0), (0, l3), (0, l4), (3, 0), (0, l6), (0, l7), (0, l8), (0, s0)] [(0, s0), (0, (e3_w32 ((e3_w32 ((e3_w32 (8 * l3)) + l7)) + 1))), (0, (e3_rem l6 (H 55 l8))), (0, l8), (2, 40)] (H) (G) (wZ L xs) (M := tbM245) rfl rfl ⟨trivial, o1, o2, trivial⟩ ?_
  refine e3_call (o := 0) (k := 246) (M2 := tbM246) (f1 := 0) (w1 := 0) (as := [(2, 40), (0, l8), (0, (e3_rem l6 (H 55 l8))), (0, (e3_w32 ((e3_w32 ((e3_w32 (8 * l3)) + l7)) + 1))), (0, s0)]) (rest := []) (M := tbM245) rfl rfl rfl trivial (Nat.le_of_ble_eq_true rfl) (Nat.le_of_ble_eq_true rfl) (Nat.le_of_ble_eq_true rfl) ?_
  refine e3_mono (sM_wait0 L xs _ _ _ _ _ _ _ h) (fun r H3 G4 h => ?_)
  obtain ⟨rfl, h⟩ := h
  change e3_Ev _ _ _ _ 125 [(2, 40), (3, 0), (3, 0), (0, l3), (0, l4), (3, 0), (0, l6), (0, l7), (0, l8), (0, s0)] [] H3 G4 _
  obtain ⟨o6, o7, h⟩ := h
  refine e3_K [0, 0, 4, 0, 2, 1, 0, 0, 0] 46 [(2, 40), (3, 0), (3, 0), (0, l3), (0, l4), (3, 0), (0, (e3_div l6 (H3 55 l8))), (0, (e3_w32 (l7 + (-1)))), (0, l8), (0, s0)] [] (H3) (G4) (wZ L xs) (M := tbM245) rfl rfl ⟨trivial, o6, o7, trivial⟩ ?_
  refine e3_fgt [true, false, false, true, true, false, true, true, false, false] ?_
  exact hk46 _ _ _ _ _ _ h
set_option maxRecDepth 100000 in
set_option maxHeartbeats 4000000 in
theorem sM_waitAll_46 (L : Nat) (xs : Nat → Int32) (Q : e3_H → e3_G → Prop) : ∀ (nl : Nat) (l3 : Int) (l4 : Int) (l6 : Int) (l7 : Int) (H : e3_H) (G : e3_G), wM_waitAll_46 Q nl l3 l4 l6 l7 H G → e3_Ev (wB L xs) 1 24 245 46 [(2, 40), (3, 0), (3, 0), (0, l3), (0, l4), (3, 0), (0, l6), (0, l7), (3, 0), (3, 0)] [] H G (e3_qv Q) := by
  intro nl
  induction nl with
  | zero => intro l3 l4 l6 l7 H G h; exact h.elim
  | succ nn ih =>
    intro l3 l4 l6 l7 H G h
    have h : (((l7 : Int) < 0 → Q H G) ∧ (¬ ((l7 : Int) < 0) → ((0 : Int) ≤ l7 ∧ (l7 : Int) < 1700) ∧ (((l4 : Int) < 0 → (wM_waitAll_96 Q (fun l3 l4 l6 l7 H G => wM_waitAll_46 Q nn l3 l4 l6 l7 H G) l3 l4 l6 l7 (H 98 l7) (-4) H G)) ∧ (¬ ((l4 : Int) < 0) → (((l3 : Int) = 0 → ((0 : Int) ≤ l7 ∧ (l7 : Int) < 3) ∧ (wM_waitAll_96 Q (fun l3 l4 l6 l7 H G => wM_waitAll_46 Q nn l3 l4 l6 l7 H G) l3 l4 l6 l7 (H 98 l7) (H 135 l7) H G)) ∧ (¬ ((l3 : Int) = 0) → ((0 : Int) ≤ (e3_w32 ((e3_w32 (4 * l4)) + l7)) ∧ ((e3_w32 ((e3_w32 (4 * l4)) + l7)) : Int) < 640) ∧ (wM_waitAll_96 Q (fun l3 l4 l6 l7 H G => wM_waitAll_46 Q nn l3 l4 l6 l7 H G) l3 l4 l6 l7 (H 98 l7) (H 132 (e3_w32 ((e3_w32 (4 * l4)) + l7))) H G))))))) := h
    refine e3_K [0] 48 [(2, 40), (3, 0), (3, 0), (0, l3), (0, l4), (3, 0), (0, l6), (0, l7), (3, 0), (3, 0)] [(0, l7)] (H) (G) (wZ L xs) (M := tbM245) rfl rfl trivial ?_
    refine e3_br (M := tbM245) rfl rfl rfl Iff.rfl (fun hc => ?_) (fun hc => ?_)
    · replace h := h.1 hc
      exact e3_retv (M := tbM245) rfl rfl rfl ⟨rfl, h⟩
    · replace h := h.2 hc
      obtain ⟨o1, h⟩ := h
      refine e3_K [0, 4, 0, 2, 0, 0] 62 [(2, 40), (3, 0), (3, 0), (0, l3), (0, l4), (3, 0), (0, l6), (0, l7), (0, (H 98 l7)), (3, 0)] [(0, l4)] (H) (G) (wZ L xs) (M := tbM245) rfl rfl ⟨trivial, o1, trivial⟩ ?_
      refine e3_br (M := tbM245) rfl rfl rfl Iff.rfl (fun hc => ?_) (fun hc => ?_)
      · replace h := h.1 hc
        refine e3_K [0] 96 [(2, 40), (3, 0), (3, 0), (0, l3), (0, l4), (3, 0), (0, l6), (0, l7), (0, (H 98 l7)), (3, 0)] [(0, (-4))] (H) (G) (wZ L xs) (M := tbM245) rfl rfl trivial ?_
        exact sM_waitAll_96 L xs Q (fun l3 l4 l6 l7 H G => wM_waitAll_46 Q nn l3 l4 l6 l7 H G) ih _ _ _ _ _ _ _ _ h
      · replace h := h.2 hc
        refine e3_K [0] 66 [(2, 40), (3, 0), (3, 0), (0, l3), (0, l4), (3, 0), (0, l6), (0, l7), (0, (H 98 l7)), (3, 0)] [(0, l3)] (H) (G) (wZ L xs) (M := tbM245) rfl rfl trivial ?_
        refine e3_br (M := tbM245) rfl rfl rfl Iff.rfl (fun hc => ?_) (fun hc => ?_)
        · replace h := h.1 hc
          obtain ⟨o2, h⟩ := h
          refine e3_K [0, 4, 0, 2, 0] 96 [(2, 40), (3, 0), (3, 0), (0, l3), (0, l4), (3, 0), (0, l6), (0, l7), (0, (H 98 l7)), (3, 0)] [(0, (H 135 l7))] (H) (G) (wZ L xs) (M := tbM245) rfl rfl ⟨trivial, o2, trivial⟩ ?_
          exact sM_waitAll_96 L xs Q (fun l3 l4 l6 l7 H G => wM_waitAll_46 Q nn l3 l4 l6 l7 H G) ih _ _ _ _ _ _ _ _ h
        · replace h := h.2 hc
          obtain ⟨o3, h⟩ := h
          refine e3_K [0, 4, 0, 0, 0, 0, 0, 2, 0] 96 [(2, 40), (3, 0), (3, 0), (0, l3), (0, l4), (3, 0), (0, l6), (0, l7), (0, (H 98 l7)), (3, 0)] [(0, (H 132 (e3_w32 ((e3_w32 (4 * l4)) + l7))))] (H) (G) (wZ L xs) (M := tbM245) rfl rfl ⟨trivial, o3, trivial⟩ ?_
          exact sM_waitAll_96 L xs Q (fun l3 l4 l6 l7 H G => wM_waitAll_46 Q nn l3 l4 l6 l7 H G) ih _ _ _ _ _ _ _ _ h
set_option maxRecDepth 100000 in
set_option maxHeartbeats 4000000 in
theorem sM_waitAll_6 (L : Nat) (xs : Nat → Int32) (Q : e3_H → e3_G → Prop) : ∀ (nl : Nat) (l2 : Int) (l3 : Int) (l4 : Int) (l5 : Int) (l6 : Int) (H : e3_H) (G : e3_G), wM_waitAll_6 Q nl l2 l3 l4 l5 l6 H G → e3_Ev (wB L xs) 1 24 245 6 [(2, 40), (3, 0), (0, l2), (0, l3), (0, l4), (0, l5), (0, l6), (3, 0), (3, 0), (3, 0)] [] H G (e3_qv Q) := by
  intro nl
  induction nl with
  | zero => intro l2 l3 l4 l5 l6 H G h; exact h.elim
  | succ nn ih =>
    intro l2 l3 l4 l5 l6 H G h
    have h : (((l6 : Int) = (-4) → (∃ n, wM_waitAll_46 Q n l3 l4 l2 (e3_w32 (l5 - 1)) H G)) ∧ (¬ ((l6 : Int) = (-4)) → ((0 : Int) ≤ l5 ∧ (l5 : Int) < 1700) ∧ ∀ H1 : e3_H, H1 = e3_up H 98 l5 l6 → ((0 : Int) ≤ l6 ∧ (l6 : Int) < 1700) ∧ (wM_waitAll_6 Q nn l2 l3 l4 (e3_w32 (l5 + 1)) (H1 52 l6) H1 G))) := h
    refine e3_K [0, 0] 10 [(2, 40), (3, 0), (0, l2), (0, l3), (0, l4), (0, l5), (0, l6), (3, 0), (3, 0), (3, 0)] [(0, (-4)), (0, l6)] (H) (G) (wZ L xs) (M := tbM245) rfl rfl trivial ?_
    refine e3_br (M := tbM245) rfl rfl rfl Iff.rfl (fun hc => ?_) (fun hc => ?_)
    · replace h := h.1 hc
      refine e3_K [0, 0, 0, 0, 0, 0] 46 [(2, 40), (3, 0), (0, l2), (0, l3), (0, l4), (0, l5), (0, l2), (0, (e3_w32 (l5 - 1))), (3, 0), (3, 0)] [] (H) (G) (wZ L xs) (M := tbM245) rfl rfl trivial ?_
      refine e3_fgt [true, false, false, true, true, false, true, true, false, false] ?_
      obtain ⟨nl, h⟩ := h
      exact sM_waitAll_46 L xs Q nl _ _ _ _ _ _ h
    · replace h := h.2 hc
      obtain ⟨o2, h⟩ := h
      refine e3_K [0, 4, 0, 0, 2] 22 [(2, 40), (3, 0), (0, l2), (0, l3), (0, l4), (0, l5), (0, l6), (3, 0), (3, 0), (3, 0)] [] (e3_up H 98 l5 l6) (G) (wZ L xs) (M := tbM245) rfl rfl ⟨trivial, o2, trivial⟩ ?_
      generalize hH1 : (e3_up H 98 l5 l6) = H1
      replace h := h H1 hH1.symm
      obtain ⟨o3, h⟩ := h
      refine e3_K [0, 0, 4, 0, 2, 0, 0] 6 [(2, 40), (3, 0), (0, l2), (0, l3), (0, l4), (0, (e3_w32 (l5 + 1))), (0, (H1 52 l6)), (3, 0), (3, 0), (3, 0)] [] (H1) (G) (wZ L xs) (M := tbM245) rfl rfl ⟨trivial, o3, trivial⟩ ?_
      exact ih _ _ _ _ _ _ _ h
set_option maxRecDepth 100000 in
set_option maxHeartbeats 4000000 in
theorem sM_waitAll (L : Nat) (xs : Nat → Int32) (Q : e3_H → e3_G → Prop) (l1 : Int) (l2 : Int) (l3 : Int) (l4 : Int) (H : e3_H) (G : e3_G) (h : wM_waitAll Q l1 l2 l3 l4 H G) : e3_Ev (wB L xs) 1 24 245 0 [(2, 40), (0, l1), (0, l2), (0, l3), (0, l4), (3, 0), (3, 0), (3, 0), (3, 0), (3, 0)] [] H G (e3_qv Q) := by
  unfold wM_waitAll at h
  refine e3_K [0, 0, 0, 0] 6 [(2, 40), (0, l1), (0, l2), (0, l3), (0, l4), (0, 0), (0, l1), (3, 0), (3, 0), (3, 0)] [] (H) (G) (wZ L xs) (M := tbM245) rfl rfl trivial ?_
  refine e3_fgt [true, false, true, true, true, true, true, false, false, false] ?_
  obtain ⟨nl, h⟩ := h
  exact sM_waitAll_6 L xs Q nl _ _ _ _ _ _ _ h
/-- LetterPostModel.notes(II)V -/
def wM_notes_54 (Q : e3_H → e3_G → Prop)  (H : e3_H) (G : e3_G) : Prop :=
  Q H G
def wM_notes_27 (Q : e3_H → e3_G → Prop) (l1 : Int) (l2 : Int) (H : e3_H) (G : e3_G) : Prop :=
  (((l2 : Int) < 0 → (wM_notes_54 Q H G)) ∧ (¬ ((l2 : Int) < 0) → ((0 : Int) ≤ l1 ∧ (l1 : Int) < 1700) ∧ ((((H 54 l1) : Int) = (-4) → (wM_notes_54 Q H G)) ∧ (¬ (((H 54 l1) : Int) = (-4)) → ((0 : Int) ≤ l1 ∧ (l1 : Int) < 1700) ∧ ((0 : Int) ≤ (H 54 l1) ∧ ((H 54 l1) : Int) < 8) ∧ ∀ H2 : e3_H, H2 = e3_up H 136 (H 54 l1) l2 → (wM_notes_54 Q H2 G)))))
def wM_notes (Q : e3_H → e3_G → Prop) (l1 : Int) (l2 : Int) (H : e3_H) (G : e3_G) : Prop :=
  (((l2 : Int) < 0 → (wM_notes_27 Q l1 l2 H G)) ∧ (¬ ((l2 : Int) < 0) → ((0 : Int) ≤ l1 ∧ (l1 : Int) < 1700) ∧ ((((H 53 l1) : Int) = (-4) → (wM_notes_27 Q l1 l2 H G)) ∧ (¬ (((H 53 l1) : Int) = (-4)) → ((0 : Int) ≤ l1 ∧ (l1 : Int) < 1700) ∧ ((0 : Int) ≤ (H 53 l1) ∧ ((H 53 l1) : Int) < 8) ∧ ∀ H2 : e3_H, H2 = e3_up H 136 (H 53 l1) l2 → (wM_notes_27 Q l1 l2 H2 G)))))
set_option maxRecDepth 100000 in
set_option maxHeartbeats 4000000 in
theorem sM_notes_54 (L : Nat) (xs : Nat → Int32) (Q : e3_H → e3_G → Prop)  (H : e3_H) (G : e3_G) (h : wM_notes_54 Q  H G) : e3_Ev (wB L xs) 0 0 248 54 [(3, 0), (3, 0), (3, 0)] [] H G (e3_qv Q) := by
  unfold wM_notes_54 at h
  exact e3_retv (M := tbM248) rfl rfl rfl ⟨rfl, h⟩
set_option maxRecDepth 100000 in
set_option maxHeartbeats 4000000 in
theorem sM_notes_27 (L : Nat) (xs : Nat → Int32) (Q : e3_H → e3_G → Prop) (l1 : Int) (l2 : Int) (H : e3_H) (G : e3_G) (h : wM_notes_27 Q l1 l2 H G) : e3_Ev (wB L xs) 0 0 248 27 [(2, 40), (0, l1), (0, l2)] [] H G (e3_qv Q) := by
  unfold wM_notes_27 at h
  refine e3_K [0] 28 [(2, 40), (0, l1), (0, l2)] [(0, l2)] (H) (G) (wZ L xs) (M := tbM248) rfl rfl trivial ?_
  refine e3_br (M := tbM248) rfl rfl rfl Iff.rfl (fun hc => ?_) (fun hc => ?_)
  · replace h := h.1 hc
    refine e3_fgt [false, false, false] ?_
    exact sM_notes_54 L xs Q _ _ h
  · replace h := h.2 hc
    obtain ⟨o1, h⟩ := h
    refine e3_K [0, 4, 0, 2, 0] 39 [(2, 40), (0, l1), (0, l2)] [(0, (-4)), (0, (H 54 l1))] (H) (G) (wZ L xs) (M := tbM248) rfl rfl ⟨trivial, o1, trivial⟩ ?_
    refine e3_br (M := tbM248) rfl rfl rfl Iff.rfl (fun hc => ?_) (fun hc => ?_)
    · replace h := h.1 hc
      refine e3_fgt [false, false, false] ?_
      exact sM_notes_54 L xs Q _ _ h
    · replace h := h.2 hc
      obtain ⟨o3, o4, h⟩ := h
      refine e3_K [0, 4, 0, 4, 0, 2, 0, 2] 54 [(2, 40), (0, l1), (0, l2)] [] (e3_up H 136 (H 54 l1) l2) (G) (wZ L xs) (M := tbM248) rfl rfl ⟨trivial, trivial, o3, o4, trivial⟩ ?_
      generalize hH2 : (e3_up H 136 (H 54 l1) l2) = H2
      replace h := h H2 hH2.symm
      refine e3_fgt [false, false, false] ?_
      exact sM_notes_54 L xs Q _ _ h
set_option maxRecDepth 100000 in
set_option maxHeartbeats 4000000 in
theorem sM_notes (L : Nat) (xs : Nat → Int32) (Q : e3_H → e3_G → Prop) (l1 : Int) (l2 : Int) (H : e3_H) (G : e3_G) (h : wM_notes Q l1 l2 H G) : e3_Ev (wB L xs) 0 0 248 0 [(2, 40), (0, l1), (0, l2)] [] H G (e3_qv Q) := by
  unfold wM_notes at h
  refine e3_K [0] 1 [(2, 40), (0, l1), (0, l2)] [(0, l2)] (H) (G) (wZ L xs) (M := tbM248) rfl rfl trivial ?_
  refine e3_br (M := tbM248) rfl rfl rfl Iff.rfl (fun hc => ?_) (fun hc => ?_)
  · replace h := h.1 hc
    exact sM_notes_27 L xs Q _ _ _ _ h
  · replace h := h.2 hc
    obtain ⟨o1, h⟩ := h
    refine e3_K [0, 4, 0, 2, 0] 12 [(2, 40), (0, l1), (0, l2)] [(0, (-4)), (0, (H 53 l1))] (H) (G) (wZ L xs) (M := tbM248) rfl rfl ⟨trivial, o1, trivial⟩ ?_
    refine e3_br (M := tbM248) rfl rfl rfl Iff.rfl (fun hc => ?_) (fun hc => ?_)
    · replace h := h.1 hc
      exact sM_notes_27 L xs Q _ _ _ _ h
    · replace h := h.2 hc
      obtain ⟨o3, o4, h⟩ := h
      refine e3_K [0, 4, 0, 4, 0, 2, 0, 2] 27 [(2, 40), (0, l1), (0, l2)] [] (e3_up H 136 (H 53 l1) l2) (G) (wZ L xs) (M := tbM248) rfl rfl ⟨trivial, trivial, o3, o4, trivial⟩ ?_
      generalize hH2 : (e3_up H 136 (H 53 l1) l2) = H2
      replace h := h H2 hH2.symm
      exact sM_notes_27 L xs Q _ _ _ _ h
/-- LetterPostModel.nextPattern()I -/
def wM_nextPattern_62 (Q : Int → e3_H → e3_G → Prop) (k30 : Int → Int → e3_H → e3_G → Prop) : Nat → Int → Int → e3_H → e3_G → Prop
  | 0, _, _, _, _ => False
  | nn + 1, l2, l3, H, G => ((0 : Int) ≤ l3 ∧ (l3 : Int) < 1700) ∧ (((l2 : Int) < (H 55 l3) → (k30 l3 l2 H G)) ∧ (¬ ((l2 : Int) < (H 55 l3)) → ((0 : Int) ≤ l3 ∧ (l3 : Int) < 1700) ∧ ((0 : Int) ≤ l3 ∧ (l3 : Int) < 1700) ∧ (wM_nextPattern_62 Q k30 nn (e3_w32 (l2 - (H 55 l3))) (H 52 l3) H G)))
def wM_nextPattern_30 (Q : Int → e3_H → e3_G → Prop) : Nat → Int → Int → e3_H → e3_G → Prop
  | 0, _, _, _, _ => False
  | nn + 1, l1, l2, H, G => ((0 : Int) ≤ l1 ∧ (l1 : Int) < 1700) ∧ ((((H 46 l1) : Int) = 6 → ((0 : Int) ≤ (H 40 71) ∧ ((H 40 71) : Int) < 2000) ∧ (wM_notes (fun H3 G4 => ((0 : Int) ≤ l1 ∧ (l1 : Int) < 1700) ∧ (∃ n, wM_nextPattern_62 Q (fun l1 l2 H G => wM_nextPattern_30 Q nn l1 l2 H G) n l2 (H3 51 l1) H3 G4)) l1 (H 97 (H 40 71)) H G)) ∧ (¬ (((H 46 l1) : Int) = 6) → ((0 : Int) ≤ (H 40 71) ∧ ((H 40 71) : Int) < 2000) ∧ ∀ H7 : e3_H, H7 = e3_up H 95 (H 40 71) l2 → Q l1 H7 G))
def wM_nextPattern (Q : Int → e3_H → e3_G → Prop)  (H : e3_H) (G : e3_G) : Prop :=
  ∀ H1 : e3_H, H1 = e3_up H 40 71 (e3_w32 ((H 40 71) - 1)) → ((0 : Int) ≤ (H1 40 71) ∧ ((H1 40 71) : Int) < 2000) ∧ ((0 : Int) ≤ (H1 40 71) ∧ ((H1 40 71) : Int) < 2000) ∧ (∃ n, wM_nextPattern_30 Q n (H1 94 (H1 40 71)) (H1 95 (H1 40 71)) H1 G)
set_option maxRecDepth 100000 in
set_option maxHeartbeats 4000000 in
theorem sM_nextPattern_62 (L : Nat) (xs : Nat → Int32) (Q : Int → e3_H → e3_G → Prop) (k30 : Int → Int → e3_H → e3_G → Prop) (hk30 : ∀ (l1 : Int) (l2 : Int) (H : e3_H) (G : e3_G), k30 l1 l2 H G → e3_Ev (wB L xs) 1 22 247 30 [(2, 40), (0, l1), (0, l2), (3, 0)] [] H G (e3_q0 Q)) : ∀ (nl : Nat) (l2 : Int) (l3 : Int) (H : e3_H) (G : e3_G), wM_nextPattern_62 Q k30 nl l2 l3 H G → e3_Ev (wB L xs) 1 22 247 62 [(2, 40), (3, 0), (0, l2), (0, l3)] [] H G (e3_q0 Q) := by
  intro nl
  induction nl with
  | zero => intro l2 l3 H G h; exact h.elim
  | succ nn ih =>
    intro l2 l3 H G h
    have h : ((0 : Int) ≤ l3 ∧ (l3 : Int) < 1700) ∧ (((l2 : Int) < (H 55 l3) → (k30 l3 l2 H G)) ∧ (¬ ((l2 : Int) < (H 55 l3)) → ((0 : Int) ≤ l3 ∧ (l3 : Int) < 1700) ∧ ((0 : Int) ≤ l3 ∧ (l3 : Int) < 1700) ∧ (wM_nextPattern_62 Q k30 nn (e3_w32 (l2 - (H 55 l3))) (H 52 l3) H G))) := h
    obtain ⟨o1, h⟩ := h
    refine e3_K [0, 0, 4, 0, 2] 69 [(2, 40), (3, 0), (0, l2), (0, l3)] [(0, (H 55 l3)), (0, l2)] (H) (G) (wZ L xs) (M := tbM247) rfl rfl ⟨trivial, o1, trivial⟩ ?_
    refine e3_br (M := tbM247) rfl rfl rfl Iff.rfl (fun hc => ?_) (fun hc => ?_)
    · replace h := h.1 hc
      refine e3_K [0, 0, 0] 30 [(2, 40), (0, l3), (0, l2), (0, l3)] [] (H) (G) (wZ L xs) (M := tbM247) rfl rfl trivial ?_
      refine e3_fgt [true, true, true, false] ?_
      exact hk30 _ _ _ _ h
    · replace h := h.2 hc
      obtain ⟨o2, o3, h⟩ := h
      refine e3_K [0, 0, 4, 0, 2, 0, 0, 0, 4, 0, 2, 0, 0] 62 [(2, 40), (3, 0), (0, (e3_w32 (l2 - (H 55 l3)))), (0, (H 52 l3))] [] (H) (G) (wZ L xs) (M := tbM247) rfl rfl ⟨trivial, o2, trivial, o3, trivial⟩ ?_
      exact ih _ _ _ _ h
set_option maxRecDepth 100000 in
set_option maxHeartbeats 4000000 in
theorem sM_nextPattern_30 (L : Nat) (xs : Nat → Int32) (Q : Int → e3_H → e3_G → Prop) : ∀ (nl : Nat) (l1 : Int) (l2 : Int) (H : e3_H) (G : e3_G), wM_nextPattern_30 Q nl l1 l2 H G → e3_Ev (wB L xs) 1 22 247 30 [(2, 40), (0, l1), (0, l2), (3, 0)] [] H G (e3_q0 Q) := by
  intro nl
  induction nl with
  | zero => intro l1 l2 H G h; exact h.elim
  | succ nn ih =>
    intro l1 l2 H G h
    have h : ((0 : Int) ≤ l1 ∧ (l1 : Int) < 1700) ∧ ((((H 46 l1) : Int) = 6 → ((0 : Int) ≤ (H 40 71) ∧ ((H 40 71) : Int) < 2000) ∧ (wM_notes (fun H3 G4 => ((0 : Int) ≤ l1 ∧ (l1 : Int) < 1700) ∧ (∃ n, wM_nextPattern_62 Q (fun l1 l2 H G => wM_nextPattern_30 Q nn l1 l2 H G) n l2 (H3 51 l1) H3 G4)) l1 (H 97 (H 40 71)) H G)) ∧ (¬ (((H 46 l1) : Int) = 6) → ((0 : Int) ≤ (H 40 71) ∧ ((H 40 71) : Int) < 2000) ∧ ∀ H7 : e3_H, H7 = e3_up H 95 (H 40 71) l2 → Q l1 H7 G)) := h
    obtain ⟨o1, h⟩ := h
    refine e3_K [0, 4, 0, 2, 0] 38 [(2, 40), (0, l1), (0, l2), (3, 0)] [(0, 6), (0, (H 46 l1))] (H) (G) (wZ L xs) (M := tbM247) rfl rfl ⟨trivial, o1, trivial⟩ ?_
    refine e3_br (M := tbM247) rfl rfl rfl Iff.rfl (fun hc => ?_) (fun hc => ?_)
    · replace h := h.1 hc
      obtain ⟨o2, h⟩ := h
      refine e3_K [0, 0, 0, 4, 0, 2, 2] 52 [(2, 40), (0, l1), (0, l2), (3, 0)] [(0, (H 97 (H 40 71))), (0, l1), (2, 40)] (H) (G) (wZ L xs) (M := tbM247) rfl rfl ⟨trivial, trivial, o2, trivial⟩ ?_
      refine e3_call (o := 0) (k := 248) (M2 := tbM248) (f1 := 0) (w1 := 0) (as := [(2, 40), (0, l1), (0, (H 97 (H 40 71)))]) (rest := []) (M := tbM247) rfl rfl rfl trivial (Nat.le_of_ble_eq_true rfl) (Nat.le_of_ble_eq_true rfl) (Nat.le_of_ble_eq_true rfl) ?_
      refine e3_mono (sM_notes L xs _ _ _ _ _ h) (fun r H3 G4 h => ?_)
      obtain ⟨rfl, h⟩ := h
      change e3_Ev _ _ _ _ 55 [(2, 40), (0, l1), (0, l2), (3, 0)] [] H3 G4 _
      obtain ⟨o6, h⟩ := h
      refine e3_K [0, 4, 0, 2, 0] 62 [(2, 40), (0, l1), (0, l2), (0, (H3 51 l1))] [] (H3) (G4) (wZ L xs) (M := tbM247) rfl rfl ⟨trivial, o6, trivial⟩ ?_
      refine e3_fgt [true, false, true, true] ?_
      obtain ⟨nl, h⟩ := h
      exact sM_nextPattern_62 L xs Q (fun l1 l2 H G => wM_nextPattern_30 Q nn l1 l2 H G) ih nl _ _ _ _ h
    · replace h := h.2 hc
      obtain ⟨o8, h⟩ := h
      refine e3_K [0, 4, 0, 2, 0, 2] 106 [(2, 40), (0, l1), (0, l2), (3, 0)] [] (e3_up H 95 (H 40 71) l2) (G) (wZ L xs) (M := tbM247) rfl rfl ⟨trivial, trivial, o8, trivial⟩ ?_
      generalize hH7 : (e3_up H 95 (H 40 71) l2) = H7
      replace h := h H7 hH7.symm
      refine e3_K [0] 107 [(2, 40), (0, l1), (0, l2), (3, 0)] [(0, l1)] (H7) (G) (wZ L xs) (M := tbM247) rfl rfl trivial ?_
      exact e3_reti (M := tbM247) rfl rfl rfl ⟨_, rfl, h⟩
set_option maxRecDepth 100000 in
set_option maxHeartbeats 4000000 in
theorem sM_nextPattern (L : Nat) (xs : Nat → Int32) (Q : Int → e3_H → e3_G → Prop)  (H : e3_H) (G : e3_G) (h : wM_nextPattern Q  H G) : e3_Ev (wB L xs) 1 22 247 0 [(2, 40), (3, 0), (3, 0), (3, 0)] [] H G (e3_q0 Q) := by
  unfold wM_nextPattern at h
  refine e3_K [0, 0, 2, 0, 0, 2] 10 [(2, 40), (3, 0), (3, 0), (3, 0)] [] (e3_up H 40 71 (e3_w32 ((H 40 71) - 1))) (G) (wZ L xs) (M := tbM247) rfl rfl ⟨trivial, trivial, trivial⟩ ?_
  generalize hH1 : (e3_up H 40 71 (e3_w32 ((H 40 71) - 1))) = H1
  replace h := h H1 hH1.symm
  obtain ⟨o2, o3, h⟩ := h
  refine e3_K [0, 4, 0, 2, 2, 0, 0, 4, 0, 2, 2, 0] 30 [(2, 40), (0, (H1 94 (H1 40 71))), (0, (H1 95 (H1 40 71))), (3, 0)] [] (H1) (G) (wZ L xs) (M := tbM247) rfl rfl ⟨trivial, trivial, o2, trivial, trivial, o3, trivial⟩ ?_
  obtain ⟨nl, h⟩ := h
  exact sM_nextPattern_30 L xs Q nl _ _ _ _ h
/-- LetterPostModel.layRow(II)V -/
def wM_layRow_174 (Q : e3_H → e3_G → Prop) (k52 : e3_H → e3_G → Prop)  (H : e3_H) (G : e3_G) : Prop :=
  (k52 H G)
def wM_layRow_130 (Q : e3_H → e3_G → Prop) (k52 : e3_H → e3_G → Prop) (l3 : Int) (l4 : Int) (H : e3_H) (G : e3_G) : Prop :=
  ((0 : Int) ≤ l3 ∧ (l3 : Int) < 1700) ∧ ((((H 46 l3) : Int) = 5 → ((0 : Int) ≤ l3 ∧ (l3 : Int) < 1700) ∧ ((((H 51 l3) : Int) = (-4) → (wM_layRow_174 Q k52 H G)) ∧ (¬ (((H 51 l3) : Int) = (-4)) → ((0 : Int) ≤ l3 ∧ (l3 : Int) < 1700) ∧ ((0 : Int) ≤ (H 40 71) ∧ ((H 40 71) : Int) < 2000) ∧ (wM_waitAll (fun H5 G6 => (wM_layRow_174 Q k52 H5 G6)) (H 51 l3) (H 95 (H 40 71)) l4 (-4) H G)))) ∧ (¬ (((H 46 l3) : Int) = 5) → (wM_layRow_174 Q k52 H G)))
def wM_layRow_52 (Q : e3_H → e3_G → Prop) : Nat → e3_H → e3_G → Prop
  | 0, _, _ => False
  | nn + 1, H, G => (((0 : Int) < (H 40 71) → (wM_nextPattern (fun x3 H1 G2 => ((0 : Int) ≤ (H1 40 71) ∧ ((H1 40 71) : Int) < 2000) ∧ ((0 : Int) ≤ x3 ∧ (x3 : Int) < 1700) ∧ ((((H1 46 x3) : Int) = 0 → (wM_layRow_130 Q (fun  H G => wM_layRow_52 Q nn  H G) x3 (H1 96 (H1 40 71)) H1 G2)) ∧ (¬ (((H1 46 x3) : Int) = 0) → ((0 : Int) ≤ x3 ∧ (x3 : Int) < 1700) ∧ ((0 : Int) ≤ (H1 40 65) ∧ ((H1 40 65) : Int) < 33000) ∧ ∀ H6 : e3_H, H6 = e3_up H1 89 (H1 40 65) (H1 46 x3) → ((0 : Int) ≤ (H6 40 65) ∧ ((H6 40 65) : Int) < 33000) ∧ ∀ H9 : e3_H, H9 = e3_up H6 90 (H6 40 65) (H1 96 (H1 40 71)) → ((0 : Int) ≤ (H9 40 65) ∧ ((H9 40 65) : Int) < 33000) ∧ ∀ H11 : e3_H, H11 = e3_up H9 91 (H9 40 65) x3 → ∀ H13 : e3_H, H13 = e3_up H11 40 65 (e3_w32 ((H11 40 65) + 1)) → (wM_layRow_130 Q (fun  H G => wM_layRow_52 Q nn  H G) x3 (H1 96 (H1 40 71)) H13 G2)))) H G)) ∧ (¬ ((0 : Int) < (H 40 71)) → ∀ H14 : e3_H, H14 = e3_up H 40 61 (e3_w32 ((H 40 61) + 1)) → ((0 : Int) ≤ (H14 40 61) ∧ ((H14 40 61) : Int) < 41) ∧ ∀ H15 : e3_H, H15 = e3_up H14 88 (H14 40 61) (H14 40 65) → Q H15 G))
def wM_layRow (Q : e3_H → e3_G → Prop) (l1 : Int) (l2 : Int) (H : e3_H) (G : e3_G) : Prop :=
  ((0 : Int) ≤ (H 40 61) ∧ ((H 40 61) : Int) < 40) ∧ ∀ H1 : e3_H, H1 = e3_up H 86 (H 40 61) l1 → ((0 : Int) ≤ (H1 40 61) ∧ ((H1 40 61) : Int) < 40) ∧ ∀ H3 : e3_H, H3 = e3_up H1 87 (H1 40 61) l2 → ((0 : Int) ≤ (H3 40 61) ∧ ((H3 40 61) : Int) < 41) ∧ ∀ H5 : e3_H, H5 = e3_up H3 88 (H3 40 61) (H3 40 65) → ∀ H7 : e3_H, H7 = e3_up H5 40 71 0 → ((0 : Int) ≤ l1 ∧ (l1 : Int) < 192) ∧ (wM_waitAll (fun H9 G10 => (∃ n, wM_layRow_52 Q n H9 G10)) (H7 72 l1) l2 0 (-4) H7 G)
set_option maxRecDepth 100000 in
set_option maxHeartbeats 4000000 in
theorem sM_layRow_174 (L : Nat) (xs : Nat → Int32) (Q : e3_H → e3_G → Prop) (k52 : e3_H → e3_G → Prop) (hk52 : ∀ (H : e3_H) (G : e3_G), k52  H G → e3_Ev (wB L xs) 2 53 244 52 [(2, 40), (3, 0), (3, 0), (3, 0), (3, 0)] [] H G (e3_qv Q))  (H : e3_H) (G : e3_G) (h : wM_layRow_174 Q k52  H G) : e3_Ev (wB L xs) 2 53 244 174 [(2, 40), (3, 0), (3, 0), (3, 0), (3, 0)] [] H G (e3_qv Q) := by
  unfold wM_layRow_174 at h
  refine e3_K [0] 52 [(2, 40), (3, 0), (3, 0), (3, 0), (3, 0)] [] (H) (G) (wZ L xs) (M := tbM244) rfl rfl trivial ?_
  exact hk52 _ _ h
set_option maxRecDepth 100000 in
set_option maxHeartbeats 4000000 in
theorem sM_layRow_130 (L : Nat) (xs : Nat → Int32) (Q : e3_H → e3_G → Prop) (k52 : e3_H → e3_G → Prop) (hk52 : ∀ (H : e3_H) (G : e3_G), k52  H G → e3_Ev (wB L xs) 2 53 244 52 [(2, 40), (3, 0), (3, 0), (3, 0), (3, 0)] [] H G (e3_qv Q)) (l3 : Int) (l4 : Int) (H : e3_H) (G : e3_G) (h : wM_layRow_130 Q k52 l3 l4 H G) : e3_Ev (wB L xs) 2 53 244 130 [(2, 40), (3, 0), (3, 0), (0, l3), (0, l4)] [] H G (e3_qv Q) := by
  unfold wM_layRow_130 at h
  obtain ⟨o1, h⟩ := h
  refine e3_K [0, 4, 0, 2, 0] 137 [(2, 40), (3, 0), (3, 0), (0, l3), (0, l4)] [(0, 5), (0, (H 46 l3))] (H) (G) (wZ L xs) (M := tbM244) rfl rfl ⟨trivial, o1, trivial⟩ ?_
  refine e3_br (M := tbM244) rfl rfl rfl Iff.rfl (fun hc => ?_) (fun hc => ?_)
  · replace h := h.1 hc
    obtain ⟨o2, h⟩ := h
    refine e3_K [0, 4, 0, 2, 0] 148 [(2, 40), (3, 0), (3, 0), (0, l3), (0, l4)] [(0, (-4)), (0, (H 51 l3))] (H) (G) (wZ L xs) (M := tbM244) rfl rfl ⟨trivial, o2, trivial⟩ ?_
    refine e3_br (M := tbM244) rfl rfl rfl Iff.rfl (fun hc => ?_) (fun hc => ?_)
    · replace h := h.1 hc
      refine e3_fgt [true, false, false, false, false] ?_
      exact sM_layRow_174 L xs Q k52 hk52 _ _ h
    · replace h := h.2 hc
      obtain ⟨o3, o4, h⟩ := h
      refine e3_K [0, 0, 4, 0, 2, 0, 4, 0, 2, 2, 0, 0] 171 [(2, 40), (3, 0), (3, 0), (0, l3), (0, l4)] [(0, (-4)), (0, l4), (0, (H 95 (H 40 71))), (0, (H 51 l3)), (2, 40)] (H) (G) (wZ L xs) (M := tbM244) rfl rfl ⟨trivial, o3, trivial, trivial, o4, trivial⟩ ?_
      refine e3_call (o := 0) (k := 245) (M2 := tbM245) (f1 := 1) (w1 := 24) (as := [(2, 40), (0, (H 51 l3)), (0, (H 95 (H 40 71))), (0, l4), (0, (-4))]) (rest := []) (M := tbM244) rfl rfl rfl trivial (Nat.le_of_ble_eq_true rfl) (Nat.le_of_ble_eq_true rfl) (Nat.le_of_ble_eq_true rfl) ?_
      refine e3_mono (sM_waitAll L xs _ _ _ _ _ _ _ h) (fun r H5 G6 h => ?_)
      obtain ⟨rfl, h⟩ := h
      change e3_Ev _ _ _ _ 174 [(2, 40), (3, 0), (3, 0), (0, l3), (0, l4)] [] H5 G6 _
      refine e3_fgt [true, false, false, false, false] ?_
      exact sM_layRow_174 L xs Q k52 hk52 _ _ h
  · replace h := h.2 hc
    refine e3_fgt [true, false, false, false, false] ?_
    exact sM_layRow_174 L xs Q k52 hk52 _ _ h
set_option maxRecDepth 100000 in
set_option maxHeartbeats 4000000 in
theorem sM_layRow_52 (L : Nat) (xs : Nat → Int32) (Q : e3_H → e3_G → Prop) : ∀ (nl : Nat) (H : e3_H) (G : e3_G), wM_layRow_52 Q nl  H G → e3_Ev (wB L xs) 2 53 244 52 [(2, 40), (3, 0), (3, 0), (3, 0), (3, 0)] [] H G (e3_qv Q) := by
  intro nl
  induction nl with
  | zero => intro  H G h; exact h.elim
  | succ nn ih =>
    intro  H G h
    have h : (((0 : Int) < (H 40 71) → (wM_nextPattern (fun x3 H1 G2 => ((0 : Int) ≤ (H1 40 71) ∧ ((H1 40 71) : Int) < 2000) ∧ ((0 : Int) ≤ x3 ∧ (x3 : Int) < 1700) ∧ ((((H1 46 x3) : Int) = 0 → (wM_layRow_130 Q (fun  H G => wM_layRow_52 Q nn  H G) x3 (H1 96 (H1 40 71)) H1 G2)) ∧ (¬ (((H1 46 x3) : Int) = 0) → ((0 : Int) ≤ x3 ∧ (x3 : Int) < 1700) ∧ ((0 : Int) ≤ (H1 40 65) ∧ ((H1 40 65) : Int) < 33000) ∧ ∀ H6 : e3_H, H6 = e3_up H1 89 (H1 40 65) (H1 46 x3) → ((0 : Int) ≤ (H6 40 65) ∧ ((H6 40 65) : Int) < 33000) ∧ ∀ H9 : e3_H, H9 = e3_up H6 90 (H6 40 65) (H1 96 (H1 40 71)) → ((0 : Int) ≤ (H9 40 65) ∧ ((H9 40 65) : Int) < 33000) ∧ ∀ H11 : e3_H, H11 = e3_up H9 91 (H9 40 65) x3 → ∀ H13 : e3_H, H13 = e3_up H11 40 65 (e3_w32 ((H11 40 65) + 1)) → (wM_layRow_130 Q (fun  H G => wM_layRow_52 Q nn  H G) x3 (H1 96 (H1 40 71)) H13 G2)))) H G)) ∧ (¬ ((0 : Int) < (H 40 71)) → ∀ H14 : e3_H, H14 = e3_up H 40 61 (e3_w32 ((H 40 61) + 1)) → ((0 : Int) ≤ (H14 40 61) ∧ ((H14 40 61) : Int) < 41) ∧ ∀ H15 : e3_H, H15 = e3_up H14 88 (H14 40 61) (H14 40 65) → Q H15 G)) := h
    refine e3_K [0, 2] 56 [(2, 40), (3, 0), (3, 0), (3, 0), (3, 0)] [(0, (H 40 71))] (H) (G) (wZ L xs) (M := tbM244) rfl rfl ⟨trivial, trivial⟩ ?_
    refine e3_br (M := tbM244) rfl rfl rfl Iff.rfl (fun hc => ?_) (fun hc => ?_)
    · replace h := h.1 hc
      refine e3_K [0] 60 [(2, 40), (3, 0), (3, 0), (3, 0), (3, 0)] [(2, 40)] (H) (G) (wZ L xs) (M := tbM244) rfl rfl trivial ?_
      refine e3_call (o := 0) (k := 247) (M2 := tbM247) (f1 := 1) (w1 := 22) (as := [(2, 40)]) (rest := []) (M := tbM244) rfl rfl rfl trivial (Nat.le_of_ble_eq_true rfl) (Nat.le_of_ble_eq_true rfl) (Nat.le_of_ble_eq_true rfl) ?_
      refine e3_mono (sM_nextPattern L xs _ _ _ h) (fun r H1 G2 h => ?_)
      obtain ⟨x3, rfl, h⟩ := h
      change e3_Ev _ _ _ _ 63 [(2, 40), (3, 0), (3, 0), (3, 0), (3, 0)] [(0, x3)] H1 G2 _
      obtain ⟨o4, o5, h⟩ := h
      refine e3_K [0, 0, 4, 0, 2, 2, 0, 0, 4, 0, 2] 81 [(2, 40), (3, 0), (3, 0), (0, x3), (0, (H1 96 (H1 40 71)))] [(0, (H1 46 x3))] (H1) (G2) (wZ L xs) (M := tbM244) rfl rfl ⟨trivial, trivial, o4, trivial, o5, trivial⟩ ?_
      refine e3_br (M := tbM244) rfl rfl rfl Iff.rfl (fun hc => ?_) (fun hc => ?_)
      · replace h := h.1 hc
        exact sM_layRow_130 L xs Q (fun  H G => wM_layRow_52 Q nn  H G) ih _ _ _ _ h
      · replace h := h.2 hc
        obtain ⟨o7, o8, h⟩ := h
        refine e3_K [0, 4, 0, 2, 0, 4, 0, 2, 2] 99 [(2, 40), (3, 0), (3, 0), (0, x3), (0, (H1 96 (H1 40 71)))] [] (e3_up H1 89 (H1 40 65) (H1 46 x3)) (G2) (wZ L xs) (M := tbM244) rfl rfl ⟨trivial, trivial, trivial, o7, o8, trivial⟩ ?_
        generalize hH6 : (e3_up H1 89 (H1 40 65) (H1 46 x3)) = H6
        replace h := h H6 hH6.symm
        obtain ⟨o10, h⟩ := h
        refine e3_K [0, 4, 0, 2, 0, 2] 110 [(2, 40), (3, 0), (3, 0), (0, x3), (0, (H1 96 (H1 40 71)))] [] (e3_up H6 90 (H6 40 65) (H1 96 (H1 40 71))) (G2) (wZ L xs) (M := tbM244) rfl rfl ⟨trivial, trivial, o10, trivial⟩ ?_
        generalize hH9 : (e3_up H6 90 (H6 40 65) (H1 96 (H1 40 71))) = H9
        replace h := h H9 hH9.symm
        obtain ⟨o12, h⟩ := h
        refine e3_K [0, 4, 0, 2, 0, 2] 120 [(2, 40), (3, 0), (3, 0), (0, x3), (0, (H1 96 (H1 40 71)))] [] (e3_up H9 91 (H9 40 65) x3) (G2) (wZ L xs) (M := tbM244) rfl rfl ⟨trivial, trivial, o12, trivial⟩ ?_
        generalize hH11 : (e3_up H9 91 (H9 40 65) x3) = H11
        replace h := h H11 hH11.symm
        refine e3_K [0, 0, 2, 0, 0, 2] 130 [(2, 40), (3, 0), (3, 0), (0, x3), (0, (H1 96 (H1 40 71)))] [] (e3_up H11 40 65 (e3_w32 ((H11 40 65) + 1))) (G2) (wZ L xs) (M := tbM244) rfl rfl ⟨trivial, trivial, trivial⟩ ?_
        generalize hH13 : (e3_up H11 40 65 (e3_w32 ((H11 40 65) + 1))) = H13
        replace h := h H13 hH13.symm
        exact sM_layRow_130 L xs Q (fun  H G => wM_layRow_52 Q nn  H G) ih _ _ _ _ h
    · replace h := h.2 hc
      refine e3_K [0, 0, 2, 0, 0, 2] 187 [(2, 40), (3, 0), (3, 0), (3, 0), (3, 0)] [] (e3_up H 40 61 (e3_w32 ((H 40 61) + 1))) (G) (wZ L xs) (M := tbM244) rfl rfl ⟨trivial, trivial, trivial⟩ ?_
      generalize hH14 : (e3_up H 40 61 (e3_w32 ((H 40 61) + 1))) = H14
      replace h := h H14 hH14.symm
      obtain ⟨o16, h⟩ := h
      refine e3_K [0, 4, 0, 2, 0, 2, 2] 200 [(2, 40), (3, 0), (3, 0), (3, 0), (3, 0)] [] (e3_up H14 88 (H14 40 61) (H14 40 65)) (G) (wZ L xs) (M := tbM244) rfl rfl ⟨trivial, trivial, trivial, o16, trivial⟩ ?_
      generalize hH15 : (e3_up H14 88 (H14 40 61) (H14 40 65)) = H15
      replace h := h H15 hH15.symm
      exact e3_retv (M := tbM244) rfl rfl rfl ⟨rfl, h⟩
set_option maxRecDepth 100000 in
set_option maxHeartbeats 4000000 in
theorem sM_layRow (L : Nat) (xs : Nat → Int32) (Q : e3_H → e3_G → Prop) (l1 : Int) (l2 : Int) (H : e3_H) (G : e3_G) (h : wM_layRow Q l1 l2 H G) : e3_Ev (wB L xs) 2 53 244 0 [(2, 40), (0, l1), (0, l2), (3, 0), (3, 0)] [] H G (e3_qv Q) := by
  unfold wM_layRow at h
  obtain ⟨o2, h⟩ := h
  refine e3_K [0, 4, 0, 2, 0, 2] 10 [(2, 40), (0, l1), (0, l2), (3, 0), (3, 0)] [] (e3_up H 86 (H 40 61) l1) (G) (wZ L xs) (M := tbM244) rfl rfl ⟨trivial, trivial, o2, trivial⟩ ?_
  generalize hH1 : (e3_up H 86 (H 40 61) l1) = H1
  replace h := h H1 hH1.symm
  obtain ⟨o4, h⟩ := h
  refine e3_K [0, 4, 0, 2, 0, 2] 20 [(2, 40), (0, l1), (0, l2), (3, 0), (3, 0)] [] (e3_up H1 87 (H1 40 61) l2) (G) (wZ L xs) (M := tbM244) rfl rfl ⟨trivial, trivial, o4, trivial⟩ ?_
  generalize hH3 : (e3_up H1 87 (H1 40 61) l2) = H3
  replace h := h H3 hH3.symm
  obtain ⟨o6, h⟩ := h
  refine e3_K [0, 4, 0, 2, 0, 2, 2] 33 [(2, 40), (0, l1), (0, l2), (3, 0), (3, 0)] [] (e3_up H3 88 (H3 40 61) (H3 40 65)) (G) (wZ L xs) (M := tbM244) rfl rfl ⟨trivial, trivial, trivial, o6, trivial⟩ ?_
  generalize hH5 : (e3_up H3 88 (H3 40 61) (H3 40 65)) = H5
  replace h := h H5 hH5.symm
  refine e3_K [0, 0, 2] 38 [(2, 40), (0, l1), (0, l2), (3, 0), (3, 0)] [] (e3_up H5 40 71 0) (G) (wZ L xs) (M := tbM244) rfl rfl ⟨trivial, trivial⟩ ?_
  generalize hH7 : (e3_up H5 40 71 0) = H7
  replace h := h H7 hH7.symm
  obtain ⟨o8, h⟩ := h
  refine e3_K [0, 0, 4, 0, 2, 0, 0, 0] 49 [(2, 40), (0, l1), (0, l2), (3, 0), (3, 0)] [(0, (-4)), (0, 0), (0, l2), (0, (H7 72 l1)), (2, 40)] (H7) (G) (wZ L xs) (M := tbM244) rfl rfl ⟨trivial, o8, trivial⟩ ?_
  refine e3_call (o := 0) (k := 245) (M2 := tbM245) (f1 := 1) (w1 := 24) (as := [(2, 40), (0, (H7 72 l1)), (0, l2), (0, 0), (0, (-4))]) (rest := []) (M := tbM244) rfl rfl rfl trivial (Nat.le_of_ble_eq_true rfl) (Nat.le_of_ble_eq_true rfl) (Nat.le_of_ble_eq_true rfl) ?_
  refine e3_mono (sM_waitAll L xs _ _ _ _ _ _ _ h) (fun r H9 G10 h => ?_)
  obtain ⟨rfl, h⟩ := h
  change e3_Ev _ _ _ _ 52 [(2, 40), (0, l1), (0, l2), (3, 0), (3, 0)] [] H9 G10 _
  refine e3_fgt [true, false, false, false, false] ?_
  obtain ⟨nl, h⟩ := h
  exact sM_layRow_52 L xs Q nl _ _ h
/-- LetterPostModel.layRows(IZ)V -/
def wM_layRows_80 (Q : e3_H → e3_G → Prop) (k19 : Int → Int → Int → e3_H → e3_G → Prop) (l1 : Int) (l2 : Int) (l3 : Int) (H : e3_H) (G : e3_G) : Prop :=
  (k19 l1 l2 (e3_w32 (l3 + 1)) H G)
def wM_layRows_66 (Q : e3_H → e3_G → Prop) (k19 : Int → Int → Int → e3_H → e3_G → Prop) (k40 : Int → Int → Int → Int → Int → e3_H → e3_G → Prop) (l1 : Int) (l2 : Int) (l3 : Int) (l4 : Int) (l5 : Int) (H : e3_H) (G : e3_G) : Prop :=
  (wM_layRow (fun H1 G2 => (k40 l1 l2 l3 l4 (e3_w32 (l5 + 1)) H1 G2)) l4 l5 H G)
def wM_layRows_40 (Q : e3_H → e3_G → Prop) (k19 : Int → Int → Int → e3_H → e3_G → Prop) : Nat → Int → Int → Int → Int → Int → e3_H → e3_G → Prop
  | 0, _, _, _, _, _, _, _ => False
  | nn + 1, l1, l2, l3, l4, l5, H, G => ((0 : Int) ≤ l4 ∧ (l4 : Int) < 192) ∧ (((l5 : Int) < (H 74 l4) → (((l2 : Int) = 0 → (wM_layRows_66 Q k19 (fun l1 l2 l3 l4 l5 H G => wM_layRows_40 Q k19 nn l1 l2 l3 l4 l5 H G) l1 l2 l3 l4 l5 H G)) ∧ (¬ ((l2 : Int) = 0) → ((0 : Int) ≤ l4 ∧ (l4 : Int) < 192) ∧ ((((H 78 l4) : Int) = 0 → (wM_layRows_66 Q k19 (fun l1 l2 l3 l4 l5 H G => wM_layRows_40 Q k19 nn l1 l2 l3 l4 l5 H G) l1 l2 l3 l4 l5 H G)) ∧ (¬ (((H 78 l4) : Int) = 0) → (wM_layRows_80 Q k19 l1 l2 l3 H G)))))) ∧ (¬ ((l5 : Int) < (H 74 l4)) → (wM_layRows_80 Q k19 l1 l2 l3 H G)))
def wM_layRows_19 (Q : e3_H → e3_G → Prop) : Nat → Int → Int → Int → e3_H → e3_G → Prop
  | 0, _, _, _, _, _ => False
  | nn + 1, l1, l2, l3, H, G => ((0 : Int) ≤ l1 ∧ (l1 : Int) < 12) ∧ (((l3 : Int) < (H 70 l1) → (∃ n, wM_layRows_40 Q (fun l1 l2 l3 H G => wM_layRows_19 Q nn l1 l2 l3 H G) n l1 l2 l3 (e3_w32 ((e3_w32 (16 * l1)) + l3)) 0 H G)) ∧ (¬ ((l3 : Int) < (H 70 l1)) → Q H G))
def wM_layRows (Q : e3_H → e3_G → Prop) (l1 : Int) (l2 : Int) (H : e3_H) (G : e3_G) : Prop :=
  ∀ H1 : e3_H, H1 = e3_up H 40 61 0 → ∀ H2 : e3_H, H2 = e3_up H1 40 65 0 → ∀ H3 : e3_H, H3 = e3_up H2 88 0 0 → (∃ n, wM_layRows_19 Q n l1 l2 0 H3 G)
set_option maxRecDepth 100000 in
set_option maxHeartbeats 4000000 in
theorem sM_layRows_80 (L : Nat) (xs : Nat → Int32) (Q : e3_H → e3_G → Prop) (k19 : Int → Int → Int → e3_H → e3_G → Prop) (hk19 : ∀ (l1 : Int) (l2 : Int) (l3 : Int) (H : e3_H) (G : e3_G), k19 l1 l2 l3 H G → e3_Ev (wB L xs) 3 77 243 19 [(2, 40), (0, l1), (0, l2), (0, l3), (3, 0), (3, 0)] [] H G (e3_qv Q)) (l1 : Int) (l2 : Int) (l3 : Int) (H : e3_H) (G : e3_G) (h : wM_layRows_80 Q k19 l1 l2 l3 H G) : e3_Ev (wB L xs) 3 77 243 80 [(2, 40), (0, l1), (0, l2), (0, l3), (3, 0), (3, 0)] [] H G (e3_qv Q) := by
  unfold wM_layRows_80 at h
  refine e3_K [0, 0] 19 [(2, 40), (0, l1), (0, l2), (0, (e3_w32 (l3 + 1))), (3, 0), (3, 0)] [] (H) (G) (wZ L xs) (M := tbM243) rfl rfl trivial ?_
  exact hk19 _ _ _ _ _ h
set_option maxRecDepth 100000 in
set_option maxHeartbeats 4000000 in
theorem sM_layRows_66 (L : Nat) (xs : Nat → Int32) (Q : e3_H → e3_G → Prop) (k19 : Int → Int → Int → e3_H → e3_G → Prop) (hk19 : ∀ (l1 : Int) (l2 : Int) (l3 : Int) (H : e3_H) (G : e3_G), k19 l1 l2 l3 H G → e3_Ev (wB L xs) 3 77 243 19 [(2, 40), (0, l1), (0, l2), (0, l3), (3, 0), (3, 0)] [] H G (e3_qv Q)) (k40 : Int → Int → Int → Int → Int → e3_H → e3_G → Prop) (hk40 : ∀ (l1 : Int) (l2 : Int) (l3 : Int) (l4 : Int) (l5 : Int) (H : e3_H) (G : e3_G), k40 l1 l2 l3 l4 l5 H G → e3_Ev (wB L xs) 3 77 243 40 [(2, 40), (0, l1), (0, l2), (0, l3), (0, l4), (0, l5)] [] H G (e3_qv Q)) (l1 : Int) (l2 : Int) (l3 : Int) (l4 : Int) (l5 : Int) (H : e3_H) (G : e3_G) (h : wM_layRows_66 Q k19 k40 l1 l2 l3 l4 l5 H G) : e3_Ev (wB L xs) 3 77 243 66 [(2, 40), (0, l1), (0, l2), (0, l3), (0, l4), (0, l5)] [] H G (e3_qv Q) := by
  unfold wM_layRows_66 at h
  refine e3_K [0, 0, 0] 71 [(2, 40), (0, l1), (0, l2), (0, l3), (0, l4), (0, l5)] [(0, l5), (0, l4), (2, 40)] (H) (G) (wZ L xs) (M := tbM243) rfl rfl trivial ?_
  refine e3_call (o := 0) (k := 244) (M2 := tbM244) (f1 := 2) (w1 := 53) (as := [(2, 40), (0, l4), (0, l5)]) (rest := []) (M := tbM243) rfl rfl rfl trivial (Nat.le_of_ble_eq_true rfl) (Nat.le_of_ble_eq_true rfl) (Nat.le_of_ble_eq_true rfl) ?_
  refine e3_mono (sM_layRow L xs _ _ _ _ _ h) (fun r H1 G2 h => ?_)
  obtain ⟨rfl, h⟩ := h
  change e3_Ev _ _ _ _ 74 [(2, 40), (0, l1), (0, l2), (0, l3), (0, l4), (0, l5)] [] H1 G2 _
  refine e3_K [0, 0] 40 [(2, 40), (0, l1), (0, l2), (0, l3), (0, l4), (0, (e3_w32 (l5 + 1)))] [] (H1) (G2) (wZ L xs) (M := tbM243) rfl rfl trivial ?_
  exact hk40 _ _ _ _ _ _ _ h
set_option maxRecDepth 100000 in
set_option maxHeartbeats 4000000 in
theorem sM_layRows_40 (L : Nat) (xs : Nat → Int32) (Q : e3_H → e3_G → Prop) (k19 : Int → Int → Int → e3_H → e3_G → Prop) (hk19 : ∀ (l1 : Int) (l2 : Int) (l3 : Int) (H : e3_H) (G : e3_G), k19 l1 l2 l3 H G → e3_Ev (wB L xs) 3 77 243 19 [(2, 40), (0, l1), (0, l2), (0, l3), (3, 0), (3, 0)] [] H G (e3_qv Q)) : ∀ (nl : Nat) (l1 : Int) (l2 : Int) (l3 : Int) (l4 : Int) (l5 : Int) (H : e3_H) (G : e3_G), wM_layRows_40 Q k19 nl l1 l2 l3 l4 l5 H G → e3_Ev (wB L xs) 3 77 243 40 [(2, 40), (0, l1), (0, l2), (0, l3), (0, l4), (0, l5)] [] H G (e3_qv Q) := by
  intro nl
  induction nl with
  | zero => intro l1 l2 l3 l4 l5 H G h; exact h.elim
  | succ nn ih =>
    intro l1 l2 l3 l4 l5 H G h
    have h : ((0 : Int) ≤ l4 ∧ (l4 : Int) < 192) ∧ (((l5 : Int) < (H 74 l4) → (((l2 : Int) = 0 → (wM_layRows_66 Q k19 (fun l1 l2 l3 l4 l5 H G => wM_layRows_40 Q k19 nn l1 l2 l3 l4 l5 H G) l1 l2 l3 l4 l5 H G)) ∧ (¬ ((l2 : Int) = 0) → ((0 : Int) ≤ l4 ∧ (l4 : Int) < 192) ∧ ((((H 78 l4) : Int) = 0 → (wM_layRows_66 Q k19 (fun l1 l2 l3 l4 l5 H G => wM_layRows_40 Q k19 nn l1 l2 l3 l4 l5 H G) l1 l2 l3 l4 l5 H G)) ∧ (¬ (((H 78 l4) : Int) = 0) → (wM_layRows_80 Q k19 l1 l2 l3 H G)))))) ∧ (¬ ((l5 : Int) < (H 74 l4)) → (wM_layRows_80 Q k19 l1 l2 l3 H G))) := h
    obtain ⟨o1, h⟩ := h
    refine e3_K [0, 0, 4, 0, 2] 49 [(2, 40), (0, l1), (0, l2), (0, l3), (0, l4), (0, l5)] [(0, (H 74 l4)), (0, l5)] (H) (G) (wZ L xs) (M := tbM243) rfl rfl ⟨trivial, o1, trivial⟩ ?_
    refine e3_br (M := tbM243) rfl rfl rfl Iff.rfl (fun hc => ?_) (fun hc => ?_)
    · replace h := h.1 hc
      refine e3_K [0] 53 [(2, 40), (0, l1), (0, l2), (0, l3), (0, l4), (0, l5)] [(0, l2)] (H) (G) (wZ L xs) (M := tbM243) rfl rfl trivial ?_
      refine e3_br (M := tbM243) rfl rfl rfl Iff.rfl (fun hc => ?_) (fun hc => ?_)
      · replace h := h.1 hc
        exact sM_layRows_66 L xs Q k19 hk19 (fun l1 l2 l3 l4 l5 H G => wM_layRows_40 Q k19 nn l1 l2 l3 l4 l5 H G) ih _ _ _ _ _ _ _ h
      · replace h := h.2 hc
        obtain ⟨o2, h⟩ := h
        refine e3_K [0, 4, 0, 2] 63 [(2, 40), (0, l1), (0, l2), (0, l3), (0, l4), (0, l5)] [(0, (H 78 l4))] (H) (G) (wZ L xs) (M := tbM243) rfl rfl ⟨trivial, o2, trivial⟩ ?_
        refine e3_br (M := tbM243) rfl rfl rfl Iff.rfl (fun hc => ?_) (fun hc => ?_)
        · replace h := h.1 hc
          exact sM_layRows_66 L xs Q k19 hk19 (fun l1 l2 l3 l4 l5 H G => wM_layRows_40 Q k19 nn l1 l2 l3 l4 l5 H G) ih _ _ _ _ _ _ _ h
        · replace h := h.2 hc
          refine e3_fgt [true, true, true, true, false, false] ?_
          exact sM_layRows_80 L xs Q k19 hk19 _ _ _ _ _ h
    · replace h := h.2 hc
      refine e3_fgt [true, true, true, true, false, false] ?_
      exact sM_layRows_80 L xs Q k19 hk19 _ _ _ _ _ h
set_option maxRecDepth 100000 in
set_option maxHeartbeats 4000000 in
theorem sM_layRows_19 (L : Nat) (xs : Nat → Int32) (Q : e3_H → e3_G → Prop) : ∀ (nl : Nat) (l1 : Int) (l2 : Int) (l3 : Int) (H : e3_H) (G : e3_G), wM_layRows_19 Q nl l1 l2 l3 H G → e3_Ev (wB L xs) 3 77 243 19 [(2, 40), (0, l1), (0, l2), (0, l3), (3, 0), (3, 0)] [] H G (e3_qv Q) := by
  intro nl
  induction nl with
  | zero => intro l1 l2 l3 H G h; exact h.elim
  | succ nn ih =>
    intro l1 l2 l3 H G h
    have h : ((0 : Int) ≤ l1 ∧ (l1 : Int) < 12) ∧ (((l3 : Int) < (H 70 l1) → (∃ n, wM_layRows_40 Q (fun l1 l2 l3 H G => wM_layRows_19 Q nn l1 l2 l3 H G) n l1 l2 l3 (e3_w32 ((e3_w32 (16 * l1)) + l3)) 0 H G)) ∧ (¬ ((l3 : Int) < (H 70 l1)) → Q H G)) := h
    obtain ⟨o1, h⟩ := h
    refine e3_K [0, 0, 4, 0, 2] 26 [(2, 40), (0, l1), (0, l2), (0, l3), (3, 0), (3, 0)] [(0, (H 70 l1)), (0, l3)] (H) (G) (wZ L xs) (M := tbM243) rfl rfl ⟨trivial, o1, trivial⟩ ?_
    refine e3_br (M := tbM243) rfl rfl rfl Iff.rfl (fun hc => ?_) (fun hc => ?_)
    · replace h := h.1 hc
      refine e3_K [0, 0, 0, 0, 0, 0, 0, 0] 40 [(2, 40), (0, l1), (0, l2), (0, l3), (0, (e3_w32 ((e3_w32 (16 * l1)) + l3))), (0, 0)] [] (H) (G) (wZ L xs) (M := tbM243) rfl rfl trivial ?_
      obtain ⟨nl, h⟩ := h
      exact sM_layRows_40 L xs Q (fun l1 l2 l3 H G => wM_layRows_19 Q nn l1 l2 l3 H G) ih nl _ _ _ _ _ _ _ h
    · replace h := h.2 hc
      exact e3_retv (M := tbM243) rfl rfl rfl ⟨rfl, h⟩
set_option maxRecDepth 100000 in
set_option maxHeartbeats 4000000 in
theorem sM_layRows (L : Nat) (xs : Nat → Int32) (Q : e3_H → e3_G → Prop) (l1 : Int) (l2 : Int) (H : e3_H) (G : e3_G) (h : wM_layRows Q l1 l2 H G) : e3_Ev (wB L xs) 3 77 243 0 [(2, 40), (0, l1), (0, l2), (3, 0), (3, 0), (3, 0)] [] H G (e3_qv Q) := by
  unfold wM_layRows at h
  refine e3_K [0, 0, 2] 5 [(2, 40), (0, l1), (0, l2), (3, 0), (3, 0), (3, 0)] [] (e3_up H 40 61 0) (G) (wZ L xs) (M := tbM243) rfl rfl ⟨trivial, trivial⟩ ?_
  generalize hH1 : (e3_up H 40 61 0) = H1
  replace h := h H1 hH1.symm
  refine e3_K [0, 0, 2] 10 [(2, 40), (0, l1), (0, l2), (3, 0), (3, 0), (3, 0)] [] (e3_up H1 40 65 0) (G) (wZ L xs) (M := tbM243) rfl rfl ⟨trivial, trivial⟩ ?_
  generalize hH2 : (e3_up H1 40 65 0) = H2
  replace h := h H2 hH2.symm
  refine e3_K [0, 4, 0, 0, 2] 17 [(2, 40), (0, l1), (0, l2), (3, 0), (3, 0), (3, 0)] [] (e3_up H2 88 0 0) (G) (wZ L xs) (M := tbM243) rfl rfl ⟨trivial, ⟨by decide, by decide⟩, trivial⟩ ?_
  generalize hH3 : (e3_up H2 88 0 0) = H3
  replace h := h H3 hH3.symm
  refine e3_K [0, 0] 19 [(2, 40), (0, l1), (0, l2), (0, 0), (3, 0), (3, 0)] [] (H3) (G) (wZ L xs) (M := tbM243) rfl rfl trivial ?_
  obtain ⟨nl, h⟩ := h
  exact sM_layRows_19 L xs Q nl _ _ _ _ _ h
/-- LetterPostModel.layKnown(I)V -/
def wM_layKnown_107 (Q : e3_H → e3_G → Prop) (k29 : Int → e3_H → e3_G → Prop) (l2 : Int) (H : e3_H) (G : e3_G) : Prop :=
  ((0 : Int) ≤ l2 ∧ (l2 : Int) < 3900) ∧ (k29 (H 107 l2) H G)
def wM_layKnown_29 (Q : e3_H → e3_G → Prop) : Nat → Int → e3_H → e3_G → Prop
  | 0, _, _, _ => False
  | nn + 1, l2, H, G => ((0 : Int) ≤ l2 ∧ (l2 : Int) < 3900) ∧ ((((H 107 l2) : Int) = (-4) → Q H G) ∧ (¬ (((H 107 l2) : Int) = (-4)) → ((0 : Int) ≤ l2 ∧ (l2 : Int) < 3900) ∧ ((0 : Int) ≤ (H 107 l2) ∧ ((H 107 l2) : Int) < 3900) ∧ ((((H 102 (H 107 l2)) : Int) = 2 → ((0 : Int) ≤ (H 107 l2) ∧ ((H 107 l2) : Int) < 3900) ∧ ((0 : Int) ≤ (H 103 (H 107 l2)) ∧ ((H 103 (H 107 l2)) : Int) < 192) ∧ ∀ H4 : e3_H, H4 = e3_up H 127 (H 103 (H 107 l2)) (e3_and 1 1) → (wM_layKnown_107 Q (fun l2 H G => wM_layKnown_29 Q nn l2 H G) l2 H4 G)) ∧ (¬ (((H 102 (H 107 l2)) : Int) = 2) → ((0 : Int) ≤ (H 107 l2) ∧ ((H 107 l2) : Int) < 3900) ∧ ((0 : Int) ≤ (H 40 105) ∧ ((H 40 105) : Int) < 300) ∧ ∀ H7 : e3_H, H7 = e3_up H 125 (H 40 105) (H 105 (H 107 l2)) → ((0 : Int) ≤ (H7 40 105) ∧ ((H7 40 105) : Int) < 300) ∧ ∀ H10 : e3_H, H10 = e3_up H7 126 (H7 40 105) l2 → ∀ H12 : e3_H, H12 = e3_up H10 40 105 (e3_w32 ((H10 40 105) + 1)) → (wM_layKnown_107 Q (fun l2 H G => wM_layKnown_29 Q nn l2 H G) l2 H12 G)))))
def wM_layKnown_7 (Q : e3_H → e3_G → Prop) : Nat → Int → Int → e3_H → e3_G → Prop
  | 0, _, _, _, _ => False
  | nn + 1, l1, l2, H, G => (((l2 : Int) < 192 → ((0 : Int) ≤ l2 ∧ (l2 : Int) < 192) ∧ ∀ H1 : e3_H, H1 = e3_up H 127 l2 (e3_and 0 1) → (wM_layKnown_7 Q nn l1 (e3_w32 (l2 + 1)) H1 G)) ∧ (¬ ((l2 : Int) < 192) → (∃ n, wM_layKnown_29 Q n l1 H G)))
def wM_layKnown (Q : e3_H → e3_G → Prop) (l1 : Int) (H : e3_H) (G : e3_G) : Prop :=
  ∀ H1 : e3_H, H1 = e3_up H 40 105 0 → (∃ n, wM_layKnown_7 Q n l1 0 H1 G)
set_option maxRecDepth 100000 in
set_option maxHeartbeats 4000000 in
theorem sM_layKnown_107 (L : Nat) (xs : Nat → Int32) (Q : e3_H → e3_G → Prop) (k29 : Int → e3_H → e3_G → Prop) (hk29 : ∀ (l2 : Int) (H : e3_H) (G : e3_G), k29 l2 H G → e3_Ev (wB L xs) 0 0 250 29 [(2, 40), (3, 0), (0, l2), (3, 0)] [] H G (e3_qv Q)) (l2 : Int) (H : e3_H) (G : e3_G) (h : wM_layKnown_107 Q k29 l2 H G) : e3_Ev (wB L xs) 0 0 250 107 [(2, 40), (3, 0), (0, l2), (3, 0)] [] H G (e3_qv Q) := by
  unfold wM_layKnown_107 at h
  obtain ⟨o1, h⟩ := h
  refine e3_K [0, 4, 0, 2, 0, 0] 29 [(2, 40), (3, 0), (0, (H 107 l2)), (3, 0)] [] (H) (G) (wZ L xs) (M := tbM250) rfl rfl ⟨trivial, o1, trivial⟩ ?_
  exact hk29 _ _ _ h
set_option maxRecDepth 100000 in
set_option maxHeartbeats 4000000 in
theorem sM_layKnown_29 (L : Nat) (xs : Nat → Int32) (Q : e3_H → e3_G → Prop) : ∀ (nl : Nat) (l2 : Int) (H : e3_H) (G : e3_G), wM_layKnown_29 Q nl l2 H G → e3_Ev (wB L xs) 0 0 250 29 [(2, 40), (3, 0), (0, l2), (3, 0)] [] H G (e3_qv Q) := by
  intro nl
  induction nl with
  | zero => intro l2 H G h; exact h.elim
  | succ nn ih =>
    intro l2 H G h
    have h : ((0 : Int) ≤ l2 ∧ (l2 : Int) < 3900) ∧ ((((H 107 l2) : Int) = (-4) → Q H G) ∧ (¬ (((H 107 l2) : Int) = (-4)) → ((0 : Int) ≤ l2 ∧ (l2 : Int) < 3900) ∧ ((0 : Int) ≤ (H 107 l2) ∧ ((H 107 l2) : Int) < 3900) ∧ ((((H 102 (H 107 l2)) : Int) = 2 → ((0 : Int) ≤ (H 107 l2) ∧ ((H 107 l2) : Int) < 3900) ∧ ((0 : Int) ≤ (H 103 (H 107 l2)) ∧ ((H 103 (H 107 l2)) : Int) < 192) ∧ ∀ H4 : e3_H, H4 = e3_up H 127 (H 103 (H 107 l2)) (e3_and 1 1) → (wM_layKnown_107 Q (fun l2 H G => wM_layKnown_29 Q nn l2 H G) l2 H4 G)) ∧ (¬ (((H 102 (H 107 l2)) : Int) = 2) → ((0 : Int) ≤ (H 107 l2) ∧ ((H 107 l2) : Int) < 3900) ∧ ((0 : Int) ≤ (H 40 105) ∧ ((H 40 105) : Int) < 300) ∧ ∀ H7 : e3_H, H7 = e3_up H 125 (H 40 105) (H 105 (H 107 l2)) → ((0 : Int) ≤ (H7 40 105) ∧ ((H7 40 105) : Int) < 300) ∧ ∀ H10 : e3_H, H10 = e3_up H7 126 (H7 40 105) l2 → ∀ H12 : e3_H, H12 = e3_up H10 40 105 (e3_w32 ((H10 40 105) + 1)) → (wM_layKnown_107 Q (fun l2 H G => wM_layKnown_29 Q nn l2 H G) l2 H12 G))))) := h
    obtain ⟨o1, h⟩ := h
    refine e3_K [0, 4, 0, 2, 0] 37 [(2, 40), (3, 0), (0, l2), (3, 0)] [(0, (-4)), (0, (H 107 l2))] (H) (G) (wZ L xs) (M := tbM250) rfl rfl ⟨trivial, o1, trivial⟩ ?_
    refine e3_br (M := tbM250) rfl rfl rfl Iff.rfl (fun hc => ?_) (fun hc => ?_)
    · replace h := h.1 hc
      exact e3_retv (M := tbM250) rfl rfl rfl ⟨rfl, h⟩
    · replace h := h.2 hc
      obtain ⟨o2, o3, h⟩ := h
      refine e3_K [0, 4, 0, 2, 0, 0, 4, 0, 2, 0] 54 [(2, 40), (3, 0), (0, l2), (0, (H 107 l2))] [(0, 2), (0, (H 102 (H 107 l2)))] (H) (G) (wZ L xs) (M := tbM250) rfl rfl ⟨trivial, o2, trivial, o3, trivial⟩ ?_
      refine e3_br (M := tbM250) rfl rfl rfl Iff.rfl (fun hc => ?_) (fun hc => ?_)
      · replace h := h.1 hc
        obtain ⟨o5, o6, h⟩ := h
        refine e3_K [0, 4, 0, 4, 0, 2, 0, 2] 69 [(2, 40), (3, 0), (0, l2), (0, (H 107 l2))] [] (e3_up H 127 (H 103 (H 107 l2)) (e3_and 1 1)) (G) (wZ L xs) (M := tbM250) rfl rfl ⟨trivial, trivial, o5, o6, trivial⟩ ?_
        generalize hH4 : (e3_up H 127 (H 103 (H 107 l2)) (e3_and 1 1)) = H4
        replace h := h H4 hH4.symm
        refine e3_K [0] 107 [(2, 40), (3, 0), (0, l2), (0, (H 107 l2))] [] (H4) (G) (wZ L xs) (M := tbM250) rfl rfl trivial ?_
        refine e3_fgt [true, false, true, false] ?_
        exact sM_layKnown_107 L xs Q (fun l2 H G => wM_layKnown_29 Q nn l2 H G) ih _ _ _ h
      · replace h := h.2 hc
        obtain ⟨o8, o9, h⟩ := h
        refine e3_K [0, 4, 0, 2, 0, 4, 0, 2, 2] 87 [(2, 40), (3, 0), (0, l2), (0, (H 107 l2))] [] (e3_up H 125 (H 40 105) (H 105 (H 107 l2))) (G) (wZ L xs) (M := tbM250) rfl rfl ⟨trivial, trivial, trivial, o8, o9, trivial⟩ ?_
        generalize hH7 : (e3_up H 125 (H 40 105) (H 105 (H 107 l2))) = H7
        replace h := h H7 hH7.symm
        obtain ⟨o11, h⟩ := h
        refine e3_K [0, 4, 0, 2, 0, 2] 97 [(2, 40), (3, 0), (0, l2), (0, (H 107 l2))] [] (e3_up H7 126 (H7 40 105) l2) (G) (wZ L xs) (M := tbM250) rfl rfl ⟨trivial, trivial, o11, trivial⟩ ?_
        generalize hH10 : (e3_up H7 126 (H7 40 105) l2) = H10
        replace h := h H10 hH10.symm
        refine e3_K [0, 0, 2, 0, 0, 2] 107 [(2, 40), (3, 0), (0, l2), (0, (H 107 l2))] [] (e3_up H10 40 105 (e3_w32 ((H10 40 105) + 1))) (G) (wZ L xs) (M := tbM250) rfl rfl ⟨trivial, trivial, trivial⟩ ?_
        generalize hH12 : (e3_up H10 40 105 (e3_w32 ((H10 40 105) + 1))) = H12
        replace h := h H12 hH12.symm
        refine e3_fgt [true, false, true, false] ?_
        exact sM_layKnown_107 L xs Q (fun l2 H G => wM_layKnown_29 Q nn l2 H G) ih _ _ _ h
set_option maxRecDepth 100000 in
set_option maxHeartbeats 4000000 in
theorem sM_layKnown_7 (L : Nat) (xs : Nat → Int32) (Q : e3_H → e3_G → Prop) : ∀ (nl : Nat) (l1 : Int) (l2 : Int) (H : e3_H) (G : e3_G), wM_layKnown_7 Q nl l1 l2 H G → e3_Ev (wB L xs) 0 0 250 7 [(2, 40), (0, l1), (0, l2), (3, 0)] [] H G (e3_qv Q) := by
  intro nl
  induction nl with
  | zero => intro l1 l2 H G h; exact h.elim
  | succ nn ih =>
    intro l1 l2 H G h
    have h : (((l2 : Int) < 192 → ((0 : Int) ≤ l2 ∧ (l2 : Int) < 192) ∧ ∀ H1 : e3_H, H1 = e3_up H 127 l2 (e3_and 0 1) → (wM_layKnown_7 Q nn l1 (e3_w32 (l2 + 1)) H1 G)) ∧ (¬ ((l2 : Int) < 192) → (∃ n, wM_layKnown_29 Q n l1 H G))) := h
    refine e3_K [0, 0] 11 [(2, 40), (0, l1), (0, l2), (3, 0)] [(0, 192), (0, l2)] (H) (G) (wZ L xs) (M := tbM250) rfl rfl trivial ?_
    refine e3_br (M := tbM250) rfl rfl rfl Iff.rfl (fun hc => ?_) (fun hc => ?_)
    · replace h := h.1 hc
      obtain ⟨o2, h⟩ := h
      refine e3_K [0, 4, 0, 0, 2] 21 [(2, 40), (0, l1), (0, l2), (3, 0)] [] (e3_up H 127 l2 (e3_and 0 1)) (G) (wZ L xs) (M := tbM250) rfl rfl ⟨trivial, o2, trivial⟩ ?_
      generalize hH1 : (e3_up H 127 l2 (e3_and 0 1)) = H1
      replace h := h H1 hH1.symm
      refine e3_K [0, 0] 7 [(2, 40), (0, l1), (0, (e3_w32 (l2 + 1))), (3, 0)] [] (H1) (G) (wZ L xs) (M := tbM250) rfl rfl trivial ?_
      exact ih _ _ _ _ h
    · replace h := h.2 hc
      refine e3_K [0, 0] 29 [(2, 40), (0, l1), (0, l1), (3, 0)] [] (H) (G) (wZ L xs) (M := tbM250) rfl rfl trivial ?_
      refine e3_fgt [true, false, true, false] ?_
      obtain ⟨nl, h⟩ := h
      exact sM_layKnown_29 L xs Q nl _ _ _ h
set_option maxRecDepth 100000 in
set_option maxHeartbeats 4000000 in
theorem sM_layKnown (L : Nat) (xs : Nat → Int32) (Q : e3_H → e3_G → Prop) (l1 : Int) (H : e3_H) (G : e3_G) (h : wM_layKnown Q l1 H G) : e3_Ev (wB L xs) 0 0 250 0 [(2, 40), (0, l1), (3, 0), (3, 0)] [] H G (e3_qv Q) := by
  unfold wM_layKnown at h
  refine e3_K [0, 0, 2] 5 [(2, 40), (0, l1), (3, 0), (3, 0)] [] (e3_up H 40 105 0) (G) (wZ L xs) (M := tbM250) rfl rfl ⟨trivial, trivial⟩ ?_
  generalize hH1 : (e3_up H 40 105 0) = H1
  replace h := h H1 hH1.symm
  refine e3_K [0, 0] 7 [(2, 40), (0, l1), (0, 0), (3, 0)] [] (H1) (G) (wZ L xs) (M := tbM250) rfl rfl trivial ?_
  obtain ⟨nl, h⟩ := h
  exact sM_layKnown_7 L xs Q nl _ _ _ _ h
/-- LetterPostModel.stands(I)I -/
def wM_stands_264 (Q : Int → e3_H → e3_G → Prop) (s0 : Int) (H : e3_H) (G : e3_G) : Prop :=
  Q s0 H G
def wM_stands_254 (Q : Int → e3_H → e3_G → Prop) (l4 : Int) (H : e3_H) (G : e3_G) : Prop :=
  (((l4 : Int) = 0 → (wM_stands_264 Q 2 H G)) ∧ (¬ ((l4 : Int) = 0) → (wM_stands_264 Q 1 H G)))
def wM_stands_131 (Q : Int → e3_H → e3_G → Prop) (s0 : Int) (H : e3_H) (G : e3_G) : Prop :=
  (wM_stands_254 Q s0 H G)
def wM_stands_130 (Q : Int → e3_H → e3_G → Prop)  (H : e3_H) (G : e3_G) : Prop :=
  (wM_stands_131 Q 0 H G)
def wM_stands_156 (Q : Int → e3_H → e3_G → Prop) (s0 : Int) (H : e3_H) (G : e3_G) : Prop :=
  (wM_stands_254 Q s0 H G)
def wM_stands_191 (Q : Int → e3_H → e3_G → Prop) (s0 : Int) (H : e3_H) (G : e3_G) : Prop :=
  (wM_stands_254 Q s0 H G)
def wM_stands_190 (Q : Int → e3_H → e3_G → Prop)  (H : e3_H) (G : e3_G) : Prop :=
  (wM_stands_191 Q 0 H G)
def wM_stands_212 (Q : Int → e3_H → e3_G → Prop) (s0 : Int) (H : e3_H) (G : e3_G) : Prop :=
  (wM_stands_254 Q s0 H G)
def wM_stands_252 (Q : Int → e3_H → e3_G → Prop) (s0 : Int) (H : e3_H) (G : e3_G) : Prop :=
  (wM_stands_254 Q s0 H G)
def wM_stands_251 (Q : Int → e3_H → e3_G → Prop)  (H : e3_H) (G : e3_G) : Prop :=
  (wM_stands_252 Q 0 H G)
def wM_stands_38 (Q : Int → e3_H → e3_G → Prop) (k5 : Int → Int → Int → e3_H → e3_G → Prop) (l1 : Int) (l3 : Int) (s0 : Int) (H : e3_H) (G : e3_G) : Prop :=
  (k5 l1 s0 (e3_w32 (l3 + 1)) H G)
def wM_stands_5 (Q : Int → e3_H → e3_G → Prop) : Nat → Int → Int → Int → e3_H → e3_G → Prop
  | 0, _, _, _, _, _ => False
  | nn + 1, l1, l2, l3, H, G => (((l3 : Int) < (H 40 105) → ((0 : Int) ≤ l3 ∧ (l3 : Int) < 300) ∧ ((0 : Int) ≤ l1 ∧ (l1 : Int) < 33000) ∧ ((((H 125 l3) : Int) = (H 90 l1) → ((0 : Int) ≤ l3 ∧ (l3 : Int) < 300) ∧ (wM_stands_38 Q (fun l1 l2 l3 H G => wM_stands_5 Q nn l1 l2 l3 H G) l1 l3 (H 126 l3) H G)) ∧ (¬ (((H 125 l3) : Int) = (H 90 l1)) → (wM_stands_38 Q (fun l1 l2 l3 H G => wM_stands_5 Q nn l1 l2 l3 H G) l1 l3 l2 H G)))) ∧ (¬ ((l3 : Int) < (H 40 105)) → (((l2 : Int) = (-4) → Q 0 H G) ∧ (¬ ((l2 : Int) = (-4)) → ((0 : Int) ≤ l1 ∧ (l1 : Int) < 33000) ∧ ((0 : Int) ≤ l1 ∧ (l1 : Int) < 33000) ∧ ((((H 89 l1) : Int) = 1 → ((0 : Int) ≤ l2 ∧ (l2 : Int) < 3900) ∧ ((0 : Int) ≤ (H 91 l1) ∧ ((H 91 l1) : Int) < 1700) ∧ ((((H 111 l2) : Int) < (H 48 (H 91 l1)) → (wM_stands_130 Q H G)) ∧ (¬ (((H 111 l2) : Int) < (H 48 (H 91 l1))) → ((0 : Int) ≤ l2 ∧ (l2 : Int) < 3900) ∧ ((0 : Int) ≤ (H 91 l1) ∧ ((H 91 l1) : Int) < 1700) ∧ ((((H 49 (H 91 l1)) : Int) < (H 112 l2) → (wM_stands_130 Q H G)) ∧ (¬ (((H 49 (H 91 l1)) : Int) < (H 112 l2)) → (wM_stands_131 Q 1 H G)))))) ∧ (((H 89 l1) : Int) = 2 → ((0 : Int) ≤ l2 ∧ (l2 : Int) < 3900) ∧ ((0 : Int) ≤ (H 91 l1) ∧ ((H 91 l1) : Int) < 1700) ∧ ((((H 111 l2) : Int) = (H 48 (H 91 l1)) → (wM_stands_156 Q 1 H G)) ∧ (¬ (((H 111 l2) : Int) = (H 48 (H 91 l1))) → (wM_stands_156 Q 0 H G)))) ∧ (((H 89 l1) : Int) = 3 → ((0 : Int) ≤ l2 ∧ (l2 : Int) < 3900) ∧ ((((H 114 l2) : Int) = 0 → ((0 : Int) ≤ l2 ∧ (l2 : Int) < 3900) ∧ ((0 : Int) ≤ (H 91 l1) ∧ ((H 91 l1) : Int) < 1700) ∧ ((((H 113 l2) : Int) = (H 50 (H 91 l1)) → (wM_stands_191 Q 1 H G)) ∧ (¬ (((H 113 l2) : Int) = (H 50 (H 91 l1))) → (wM_stands_190 Q H G)))) ∧ (¬ (((H 114 l2) : Int) = 0) → (wM_stands_190 Q H G)))) ∧ (((H 89 l1) : Int) = 4 → ((0 : Int) ≤ l2 ∧ (l2 : Int) < 3900) ∧ ((((H 111 l2) : Int) = (-4) → (wM_stands_212 Q 1 H G)) ∧ (¬ (((H 111 l2) : Int) = (-4)) → (wM_stands_212 Q 0 H G)))) ∧ (((H 89 l1) : Int) < 1 ∨ 4 < (H 89 l1) → ((0 : Int) ≤ l2 ∧ (l2 : Int) < 3900) ∧ ((((H 111 l2) : Int) = (-4) → (wM_stands_251 Q H G)) ∧ (¬ (((H 111 l2) : Int) = (-4)) → ((0 : Int) ≤ l2 ∧ (l2 : Int) < 3900) ∧ ((0 : Int) ≤ (H 91 l1) ∧ ((H 91 l1) : Int) < 1700) ∧ (wM_isOf (fun x21 H19 G20 => (((x21 : Int) = 0 → (wM_stands_251 Q H19 G20)) ∧ (¬ ((x21 : Int) = 0) → (wM_stands_252 Q 1 H19 G20)))) (H 111 l2) (H 48 (H 91 l1)) H G)))))))))
def wM_stands (Q : Int → e3_H → e3_G → Prop) (l1 : Int) (H : e3_H) (G : e3_G) : Prop :=
  (∃ n, wM_stands_5 Q n l1 (-4) 0 H G)
set_option maxRecDepth 100000 in
set_option maxHeartbeats 4000000 in
theorem sM_stands_264 (L : Nat) (xs : Nat → Int32) (Q : Int → e3_H → e3_G → Prop) (s0 : Int) (H : e3_H) (G : e3_G) (h : wM_stands_264 Q s0 H G) : e3_Ev (wB L xs) 1 23 252 264 [(3, 0), (3, 0), (3, 0), (3, 0), (3, 0)] [(0, s0)] H G (e3_q0 Q) := by
  unfold wM_stands_264 at h
  exact e3_reti (M := tbM252) rfl rfl rfl ⟨_, rfl, h⟩
set_option maxRecDepth 100000 in
set_option maxHeartbeats 4000000 in
theorem sM_stands_254 (L : Nat) (xs : Nat → Int32) (Q : Int → e3_H → e3_G → Prop) (l4 : Int) (H : e3_H) (G : e3_G) (h : wM_stands_254 Q l4 H G) : e3_Ev (wB L xs) 1 23 252 254 [(3, 0), (3, 0), (3, 0), (3, 0), (0, l4)] [] H G (e3_q0 Q) := by
  unfold wM_stands_254 at h
  refine e3_K [0] 256 [(3, 0), (3, 0), (3, 0), (3, 0), (0, l4)] [(0, l4)] (H) (G) (wZ L xs) (M := tbM252) rfl rfl trivial ?_
  refine e3_br (M := tbM252) rfl rfl rfl Iff.rfl (fun hc => ?_) (fun hc => ?_)
  · replace h := h.1 hc
    refine e3_K [0] 264 [(3, 0), (3, 0), (3, 0), (3, 0), (0, l4)] [(0, 2)] (H) (G) (wZ L xs) (M := tbM252) rfl rfl trivial ?_
    refine e3_fgt [false, false, false, false, false] ?_
    exact sM_stands_264 L xs Q _ _ _ h
  · replace h := h.2 hc
    refine e3_K [0, 0] 264 [(3, 0), (3, 0), (3, 0), (3, 0), (0, l4)] [(0, 1)] (H) (G) (wZ L xs) (M := tbM252) rfl rfl trivial ?_
    refine e3_fgt [false, false, false, false, false] ?_
    exact sM_stands_264 L xs Q _ _ _ h
set_option maxRecDepth 100000 in
set_option maxHeartbeats 4000000 in
theorem sM_stands_131 (L : Nat) (xs : Nat → Int32) (Q : Int → e3_H → e3_G → Prop) (s0 : Int) (H : e3_H) (G : e3_G) (h : wM_stands_131 Q s0 H G) : e3_Ev (wB L xs) 1 23 252 131 [(3, 0), (3, 0), (3, 0), (3, 0), (3, 0)] [(0, s0)] H G (e3_q0 Q) := by
  unfold wM_stands_131 at h
  refine e3_K [0, 0] 254 [(3, 0), (3, 0), (3, 0), (3, 0), (0, s0)] [] (H) (G) (wZ L xs) (M := tbM252) rfl rfl trivial ?_
  exact sM_stands_254 L xs Q _ _ _ h
set_option maxRecDepth 100000 in
set_option maxHeartbeats 4000000 in
theorem sM_stands_130 (L : Nat) (xs : Nat → Int32) (Q : Int → e3_H → e3_G → Prop)  (H : e3_H) (G : e3_G) (h : wM_stands_130 Q  H G) : e3_Ev (wB L xs) 1 23 252 130 [(3, 0), (3, 0), (3, 0), (3, 0), (3, 0)] [] H G (e3_q0 Q) := by
  unfold wM_stands_130 at h
  refine e3_K [0] 131 [(3, 0), (3, 0), (3, 0), (3, 0), (3, 0)] [(0, 0)] (H) (G) (wZ L xs) (M := tbM252) rfl rfl trivial ?_
  exact sM_stands_131 L xs Q _ _ _ h
set_option maxRecDepth 100000 in
set_option maxHeartbeats 4000000 in
theorem sM_stands_156 (L : Nat) (xs : Nat → Int32) (Q : Int → e3_H → e3_G → Prop) (s0 : Int) (H : e3_H) (G : e3_G) (h : wM_stands_156 Q s0 H G) : e3_Ev (wB L xs) 1 23 252 156 [(3, 0), (3, 0), (3, 0), (3, 0), (3, 0)] [(0, s0)] H G (e3_q0 Q) := by
  unfold wM_stands_156 at h
  refine e3_K [0, 0] 254 [(3, 0), (3, 0), (3, 0), (3, 0), (0, s0)] [] (H) (G) (wZ L xs) (M := tbM252) rfl rfl trivial ?_
  exact sM_stands_254 L xs Q _ _ _ h
set_option maxRecDepth 100000 in
set_option maxHeartbeats 4000000 in
theorem sM_stands_191 (L : Nat) (xs : Nat → Int32) (Q : Int → e3_H → e3_G → Prop) (s0 : Int) (H : e3_H) (G : e3_G) (h : wM_stands_191 Q s0 H G) : e3_Ev (wB L xs) 1 23 252 191 [(3, 0), (3, 0), (3, 0), (3, 0), (3, 0)] [(0, s0)] H G (e3_q0 Q) := by
  unfold wM_stands_191 at h
  refine e3_K [0, 0] 254 [(3, 0), (3, 0), (3, 0), (3, 0), (0, s0)] [] (H) (G) (wZ L xs) (M := tbM252) rfl rfl trivial ?_
  exact sM_stands_254 L xs Q _ _ _ h
set_option maxRecDepth 100000 in
set_option maxHeartbeats 4000000 in
theorem sM_stands_190 (L : Nat) (xs : Nat → Int32) (Q : Int → e3_H → e3_G → Prop)  (H : e3_H) (G : e3_G) (h : wM_stands_190 Q  H G) : e3_Ev (wB L xs) 1 23 252 190 [(3, 0), (3, 0), (3, 0), (3, 0), (3, 0)] [] H G (e3_q0 Q) := by
  unfold wM_stands_190 at h
  refine e3_K [0] 191 [(3, 0), (3, 0), (3, 0), (3, 0), (3, 0)] [(0, 0)] (H) (G) (wZ L xs) (M := tbM252) rfl rfl trivial ?_
  exact sM_stands_191 L xs Q _ _ _ h
set_option maxRecDepth 100000 in
set_option maxHeartbeats 4000000 in
theorem sM_stands_212 (L : Nat) (xs : Nat → Int32) (Q : Int → e3_H → e3_G → Prop) (s0 : Int) (H : e3_H) (G : e3_G) (h : wM_stands_212 Q s0 H G) : e3_Ev (wB L xs) 1 23 252 212 [(3, 0), (3, 0), (3, 0), (3, 0), (3, 0)] [(0, s0)] H G (e3_q0 Q) := by
  unfold wM_stands_212 at h
  refine e3_K [0, 0] 254 [(3, 0), (3, 0), (3, 0), (3, 0), (0, s0)] [] (H) (G) (wZ L xs) (M := tbM252) rfl rfl trivial ?_
  exact sM_stands_254 L xs Q _ _ _ h
set_option maxRecDepth 100000 in
set_option maxHeartbeats 4000000 in
theorem sM_stands_252 (L : Nat) (xs : Nat → Int32) (Q : Int → e3_H → e3_G → Prop) (s0 : Int) (H : e3_H) (G : e3_G) (h : wM_stands_252 Q s0 H G) : e3_Ev (wB L xs) 1 23 252 252 [(3, 0), (3, 0), (3, 0), (3, 0), (3, 0)] [(0, s0)] H G (e3_q0 Q) := by
  unfold wM_stands_252 at h
  refine e3_K [0] 254 [(3, 0), (3, 0), (3, 0), (3, 0), (0, s0)] [] (H) (G) (wZ L xs) (M := tbM252) rfl rfl trivial ?_
  exact sM_stands_254 L xs Q _ _ _ h
set_option maxRecDepth 100000 in
set_option maxHeartbeats 4000000 in
theorem sM_stands_251 (L : Nat) (xs : Nat → Int32) (Q : Int → e3_H → e3_G → Prop)  (H : e3_H) (G : e3_G) (h : wM_stands_251 Q  H G) : e3_Ev (wB L xs) 1 23 252 251 [(3, 0), (3, 0), (3, 0), (3, 0), (3, 0)] [] H G (e3_q0 Q) := by
  unfold wM_stands_251 at h
  refine e3_K [0] 252 [(3, 0), (3, 0), (3, 0), (3, 0), (3, 0)] [(0, 0)] (H) (G) (wZ L xs) (M := tbM252) rfl rfl trivial ?_
  exact sM_stands_252 L xs Q _ _ _ h
set_option maxRecDepth 100000 in
set_option maxHeartbeats 4000000 in
theorem sM_stands_38 (L : Nat) (xs : Nat → Int32) (Q : Int → e3_H → e3_G → Prop) (k5 : Int → Int → Int → e3_H → e3_G → Prop) (hk5 : ∀ (l1 : Int) (l2 : Int) (l3 : Int) (H : e3_H) (G : e3_G), k5 l1 l2 l3 H G → e3_Ev (wB L xs) 1 23 252 5 [(2, 40), (0, l1), (0, l2), (0, l3), (3, 0)] [] H G (e3_q0 Q)) (l1 : Int) (l3 : Int) (s0 : Int) (H : e3_H) (G : e3_G) (h : wM_stands_38 Q k5 l1 l3 s0 H G) : e3_Ev (wB L xs) 1 23 252 38 [(2, 40), (0, l1), (3, 0), (0, l3), (3, 0)] [(0, s0)] H G (e3_q0 Q) := by
  unfold wM_stands_38 at h
  refine e3_K [0, 0, 0] 5 [(2, 40), (0, l1), (0, s0), (0, (e3_w32 (l3 + 1))), (3, 0)] [] (H) (G) (wZ L xs) (M := tbM252) rfl rfl trivial ?_
  exact hk5 _ _ _ _ _ h
set_option maxRecDepth 100000 in
set_option maxHeartbeats 4000000 in
theorem sM_stands_5 (L : Nat) (xs : Nat → Int32) (Q : Int → e3_H → e3_G → Prop) : ∀ (nl : Nat) (l1 : Int) (l2 : Int) (l3 : Int) (H : e3_H) (G : e3_G), wM_stands_5 Q nl l1 l2 l3 H G → e3_Ev (wB L xs) 1 23 252 5 [(2, 40), (0, l1), (0, l2), (0, l3), (3, 0)] [] H G (e3_q0 Q) := by
  intro nl
  induction nl with
  | zero => intro l1 l2 l3 H G h; exact h.elim
  | succ nn ih =>
    intro l1 l2 l3 H G h
    have h : (((l3 : Int) < (H 40 105) → ((0 : Int) ≤ l3 ∧ (l3 : Int) < 300) ∧ ((0 : Int) ≤ l1 ∧ (l1 : Int) < 33000) ∧ ((((H 125 l3) : Int) = (H 90 l1) → ((0 : Int) ≤ l3 ∧ (l3 : Int) < 300) ∧ (wM_stands_38 Q (fun l1 l2 l3 H G => wM_stands_5 Q nn l1 l2 l3 H G) l1 l3 (H 126 l3) H G)) ∧ (¬ (((H 125 l3) : Int) = (H 90 l1)) → (wM_stands_38 Q (fun l1 l2 l3 H G => wM_stands_5 Q nn l1 l2 l3 H G) l1 l3 l2 H G)))) ∧ (¬ ((l3 : Int) < (H 40 105)) → (((l2 : Int) = (-4) → Q 0 H G) ∧ (¬ ((l2 : Int) = (-4)) → ((0 : Int) ≤ l1 ∧ (l1 : Int) < 33000) ∧ ((0 : Int) ≤ l1 ∧ (l1 : Int) < 33000) ∧ ((((H 89 l1) : Int) = 1 → ((0 : Int) ≤ l2 ∧ (l2 : Int) < 3900) ∧ ((0 : Int) ≤ (H 91 l1) ∧ ((H 91 l1) : Int) < 1700) ∧ ((((H 111 l2) : Int) < (H 48 (H 91 l1)) → (wM_stands_130 Q H G)) ∧ (¬ (((H 111 l2) : Int) < (H 48 (H 91 l1))) → ((0 : Int) ≤ l2 ∧ (l2 : Int) < 3900) ∧ ((0 : Int) ≤ (H 91 l1) ∧ ((H 91 l1) : Int) < 1700) ∧ ((((H 49 (H 91 l1)) : Int) < (H 112 l2) → (wM_stands_130 Q H G)) ∧ (¬ (((H 49 (H 91 l1)) : Int) < (H 112 l2)) → (wM_stands_131 Q 1 H G)))))) ∧ (((H 89 l1) : Int) = 2 → ((0 : Int) ≤ l2 ∧ (l2 : Int) < 3900) ∧ ((0 : Int) ≤ (H 91 l1) ∧ ((H 91 l1) : Int) < 1700) ∧ ((((H 111 l2) : Int) = (H 48 (H 91 l1)) → (wM_stands_156 Q 1 H G)) ∧ (¬ (((H 111 l2) : Int) = (H 48 (H 91 l1))) → (wM_stands_156 Q 0 H G)))) ∧ (((H 89 l1) : Int) = 3 → ((0 : Int) ≤ l2 ∧ (l2 : Int) < 3900) ∧ ((((H 114 l2) : Int) = 0 → ((0 : Int) ≤ l2 ∧ (l2 : Int) < 3900) ∧ ((0 : Int) ≤ (H 91 l1) ∧ ((H 91 l1) : Int) < 1700) ∧ ((((H 113 l2) : Int) = (H 50 (H 91 l1)) → (wM_stands_191 Q 1 H G)) ∧ (¬ (((H 113 l2) : Int) = (H 50 (H 91 l1))) → (wM_stands_190 Q H G)))) ∧ (¬ (((H 114 l2) : Int) = 0) → (wM_stands_190 Q H G)))) ∧ (((H 89 l1) : Int) = 4 → ((0 : Int) ≤ l2 ∧ (l2 : Int) < 3900) ∧ ((((H 111 l2) : Int) = (-4) → (wM_stands_212 Q 1 H G)) ∧ (¬ (((H 111 l2) : Int) = (-4)) → (wM_stands_212 Q 0 H G)))) ∧ (((H 89 l1) : Int) < 1 ∨ 4 < (H 89 l1) → ((0 : Int) ≤ l2 ∧ (l2 : Int) < 3900) ∧ ((((H 111 l2) : Int) = (-4) → (wM_stands_251 Q H G)) ∧ (¬ (((H 111 l2) : Int) = (-4)) → ((0 : Int) ≤ l2 ∧ (l2 : Int) < 3900) ∧ ((0 : Int) ≤ (H 91 l1) ∧ ((H 91 l1) : Int) < 1700) ∧ (wM_isOf (fun x21 H19 G20 => (((x21 : Int) = 0 → (wM_stands_251 Q H19 G20)) ∧ (¬ ((x21 : Int) = 0) → (wM_stands_252 Q 1 H19 G20)))) (H 111 l2) (H 48 (H 91 l1)) H G))))))))) := h
    refine e3_K [0, 0, 2] 10 [(2, 40), (0, l1), (0, l2), (0, l3), (3, 0)] [(0, (H 40 105)), (0, l3)] (H) (G) (wZ L xs) (M := tbM252) rfl rfl ⟨trivial, trivial⟩ ?_
    refine e3_br (M := tbM252) rfl rfl rfl Iff.rfl (fun hc => ?_) (fun hc => ?_)
    · replace h := h.1 hc
      obtain ⟨o1, o2, h⟩ := h
      refine e3_K [0, 4, 0, 2, 0, 4, 0, 2] 25 [(2, 40), (0, l1), (0, l2), (0, l3), (3, 0)] [(0, (H 90 l1)), (0, (H 125 l3))] (H) (G) (wZ L xs) (M := tbM252) rfl rfl ⟨trivial, o1, trivial, o2, trivial⟩ ?_
      refine e3_br (M := tbM252) rfl rfl rfl Iff.rfl (fun hc => ?_) (fun hc => ?_)
      · replace h := h.1 hc
        obtain ⟨o3, h⟩ := h
        refine e3_K [0, 4, 0, 2, 0] 38 [(2, 40), (0, l1), (0, l2), (0, l3), (3, 0)] [(0, (H 126 l3))] (H) (G) (wZ L xs) (M := tbM252) rfl rfl ⟨trivial, o3, trivial⟩ ?_
        refine e3_fgt [true, true, false, true, false] ?_
        exact sM_stands_38 L xs Q (fun l1 l2 l3 H G => wM_stands_5 Q nn l1 l2 l3 H G) ih _ _ _ _ _ h
      · replace h := h.2 hc
        refine e3_K [0] 38 [(2, 40), (0, l1), (0, l2), (0, l3), (3, 0)] [(0, l2)] (H) (G) (wZ L xs) (M := tbM252) rfl rfl trivial ?_
        refine e3_fgt [true, true, false, true, false] ?_
        exact sM_stands_38 L xs Q (fun l1 l2 l3 H G => wM_stands_5 Q nn l1 l2 l3 H G) ih _ _ _ _ _ h
    · replace h := h.2 hc
      refine e3_K [0, 0] 48 [(2, 40), (0, l1), (0, l2), (0, l3), (3, 0)] [(0, (-4)), (0, l2)] (H) (G) (wZ L xs) (M := tbM252) rfl rfl trivial ?_
      refine e3_br (M := tbM252) rfl rfl rfl Iff.rfl (fun hc => ?_) (fun hc => ?_)
      · replace h := h.1 hc
        refine e3_K [0] 52 [(2, 40), (0, l1), (0, l2), (0, l3), (3, 0)] [(0, 0)] (H) (G) (wZ L xs) (M := tbM252) rfl rfl trivial ?_
        exact e3_reti (M := tbM252) rfl rfl rfl ⟨_, rfl, h⟩
      · replace h := h.2 hc
        obtain ⟨o4, o5, h⟩ := h
        refine e3_K [0, 4, 0, 2, 0, 0, 4, 0, 2] 66 [(2, 40), (0, l1), (0, l2), (0, (H 91 l1)), (3, 0)] [(0, (H 89 l1))] (H) (G) (wZ L xs) (M := tbM252) rfl rfl ⟨trivial, o4, trivial, o5, trivial⟩ ?_
        by_cases hc0 : ((H 89 l1) : Int) = 1
        · replace h := h.1 hc0
          refine e3_sw (M := tbM252) rfl rfl hc0 rfl ?_
          obtain ⟨o6, o7, h⟩ := h
          refine e3_K [0, 4, 0, 2, 0, 4, 0, 2] 108 [(2, 40), (0, l1), (0, l2), (0, (H 91 l1)), (3, 0)] [(0, (H 48 (H 91 l1))), (0, (H 111 l2))] (H) (G) (wZ L xs) (M := tbM252) rfl rfl ⟨trivial, o6, trivial, o7, trivial⟩ ?_
          refine e3_br (M := tbM252) rfl rfl rfl Iff.rfl (fun hc => ?_) (fun hc => ?_)
          · replace h := h.1 hc
            refine e3_fgt [false, false, false, false, false] ?_
            exact sM_stands_130 L xs Q _ _ h
          · replace h := h.2 hc
            obtain ⟨o8, o9, h⟩ := h
            refine e3_K [0, 4, 0, 2, 0, 4, 0, 2] 123 [(2, 40), (0, l1), (0, l2), (0, (H 91 l1)), (3, 0)] [(0, (H 49 (H 91 l1))), (0, (H 112 l2))] (H) (G) (wZ L xs) (M := tbM252) rfl rfl ⟨trivial, o8, trivial, o9, trivial⟩ ?_
            refine e3_br (M := tbM252) rfl rfl rfl Iff.rfl (fun hc => ?_) (fun hc => ?_)
            · replace h := h.1 hc
              refine e3_fgt [false, false, false, false, false] ?_
              exact sM_stands_130 L xs Q _ _ h
            · replace h := h.2 hc
              refine e3_K [0, 0] 131 [(2, 40), (0, l1), (0, l2), (0, (H 91 l1)), (3, 0)] [(0, 1)] (H) (G) (wZ L xs) (M := tbM252) rfl rfl trivial ?_
              refine e3_fgt [false, false, false, false, false] ?_
              exact sM_stands_131 L xs Q _ _ _ h
        replace h := h.2
        by_cases hc1 : ((H 89 l1) : Int) = 2
        · replace h := h.1 hc1
          refine e3_sw (M := tbM252) rfl rfl hc1 rfl ?_
          obtain ⟨o10, o11, h⟩ := h
          refine e3_K [0, 4, 0, 2, 0, 4, 0, 2] 148 [(2, 40), (0, l1), (0, l2), (0, (H 91 l1)), (3, 0)] [(0, (H 48 (H 91 l1))), (0, (H 111 l2))] (H) (G) (wZ L xs) (M := tbM252) rfl rfl ⟨trivial, o10, trivial, o11, trivial⟩ ?_
          refine e3_br (M := tbM252) rfl rfl rfl Iff.rfl (fun hc => ?_) (fun hc => ?_)
          · replace h := h.1 hc
            refine e3_K [0, 0] 156 [(2, 40), (0, l1), (0, l2), (0, (H 91 l1)), (3, 0)] [(0, 1)] (H) (G) (wZ L xs) (M := tbM252) rfl rfl trivial ?_
            refine e3_fgt [false, false, false, false, false] ?_
            exact sM_stands_156 L xs Q _ _ _ h
          · replace h := h.2 hc
            refine e3_K [0] 156 [(2, 40), (0, l1), (0, l2), (0, (H 91 l1)), (3, 0)] [(0, 0)] (H) (G) (wZ L xs) (M := tbM252) rfl rfl trivial ?_
            refine e3_fgt [false, false, false, false, false] ?_
            exact sM_stands_156 L xs Q _ _ _ h
        replace h := h.2
        by_cases hc2 : ((H 89 l1) : Int) = 3
        · replace h := h.1 hc2
          refine e3_sw (M := tbM252) rfl rfl hc2 rfl ?_
          obtain ⟨o12, h⟩ := h
          refine e3_K [0, 4, 0, 2] 167 [(2, 40), (0, l1), (0, l2), (0, (H 91 l1)), (3, 0)] [(0, (H 114 l2))] (H) (G) (wZ L xs) (M := tbM252) rfl rfl ⟨trivial, o12, trivial⟩ ?_
          refine e3_br (M := tbM252) rfl rfl rfl Iff.rfl (fun hc => ?_) (fun hc => ?_)
          · replace h := h.1 hc
            obtain ⟨o13, o14, h⟩ := h
            refine e3_K [0, 4, 0, 2, 0, 4, 0, 2, 0] 183 [(2, 40), (0, l1), (0, l2), (0, (H 91 l1)), (3, 0)] [(0, (e3_cmp (H 113 l2) (H 50 (H 91 l1))))] (H) (G) (wZ L xs) (M := tbM252) rfl rfl ⟨trivial, o13, trivial, o14, trivial⟩ ?_
            refine e3_br (M := tbM252) rfl rfl rfl e3_cmp_eq (fun hc => ?_) (fun hc => ?_)
            · replace h := h.1 hc
              refine e3_K [0, 0] 191 [(2, 40), (0, l1), (0, l2), (0, (H 91 l1)), (3, 0)] [(0, 1)] (H) (G) (wZ L xs) (M := tbM252) rfl rfl trivial ?_
              refine e3_fgt [false, false, false, false, false] ?_
              exact sM_stands_191 L xs Q _ _ _ h
            · replace h := h.2 hc
              refine e3_fgt [false, false, false, false, false] ?_
              exact sM_stands_190 L xs Q _ _ h
          · replace h := h.2 hc
            refine e3_fgt [false, false, false, false, false] ?_
            exact sM_stands_190 L xs Q _ _ h
        replace h := h.2
        by_cases hc3 : ((H 89 l1) : Int) = 4
        · replace h := h.1 hc3
          refine e3_sw (M := tbM252) rfl rfl hc3 rfl ?_
          obtain ⟨o15, h⟩ := h
          refine e3_K [0, 4, 0, 2, 0] 204 [(2, 40), (0, l1), (0, l2), (0, (H 91 l1)), (3, 0)] [(0, (-4)), (0, (H 111 l2))] (H) (G) (wZ L xs) (M := tbM252) rfl rfl ⟨trivial, o15, trivial⟩ ?_
          refine e3_br (M := tbM252) rfl rfl rfl Iff.rfl (fun hc => ?_) (fun hc => ?_)
          · replace h := h.1 hc
            refine e3_K [0, 0] 212 [(2, 40), (0, l1), (0, l2), (0, (H 91 l1)), (3, 0)] [(0, 1)] (H) (G) (wZ L xs) (M := tbM252) rfl rfl trivial ?_
            refine e3_fgt [false, false, false, false, false] ?_
            exact sM_stands_212 L xs Q _ _ _ h
          · replace h := h.2 hc
            refine e3_K [0] 212 [(2, 40), (0, l1), (0, l2), (0, (H 91 l1)), (3, 0)] [(0, 0)] (H) (G) (wZ L xs) (M := tbM252) rfl rfl trivial ?_
            refine e3_fgt [false, false, false, false, false] ?_
            exact sM_stands_212 L xs Q _ _ _ h
        replace h := h.2
        replace h := h (by omega)
        refine e3_sw (M := tbM252) rfl rfl rfl ((e3_swdt (by omega)).trans rfl) ?_
        obtain ⟨o16, h⟩ := h
        refine e3_K [0, 4, 0, 2, 0] 225 [(2, 40), (0, l1), (0, l2), (0, (H 91 l1)), (3, 0)] [(0, (-4)), (0, (H 111 l2))] (H) (G) (wZ L xs) (M := tbM252) rfl rfl ⟨trivial, o16, trivial⟩ ?_
        refine e3_br (M := tbM252) rfl rfl rfl Iff.rfl (fun hc => ?_) (fun hc => ?_)
        · replace h := h.1 hc
          refine e3_fgt [false, false, false, false, false] ?_
          exact sM_stands_251 L xs Q _ _ h
        · replace h := h.2 hc
          obtain ⟨o17, o18, h⟩ := h
          refine e3_K [0, 0, 4, 0, 2, 0, 4, 0, 2] 241 [(2, 40), (0, l1), (0, l2), (0, (H 91 l1)), (3, 0)] [(0, (H 48 (H 91 l1))), (0, (H 111 l2)), (2, 40)] (H) (G) (wZ L xs) (M := tbM252) rfl rfl ⟨trivial, o17, trivial, o18, trivial⟩ ?_
          refine e3_call (o := 0) (k := 223) (M2 := tbM223) (f1 := 0) (w1 := 0) (as := [(2, 40), (0, (H 111 l2)), (0, (H 48 (H 91 l1)))]) (rest := []) (M := tbM252) rfl rfl rfl trivial (Nat.le_of_ble_eq_true rfl) (Nat.le_of_ble_eq_true rfl) (Nat.le_of_ble_eq_true rfl) ?_
          refine e3_mono (sM_isOf L xs _ _ _ _ _ h) (fun r H19 G20 h => ?_)
          obtain ⟨x21, rfl, h⟩ := h
          change e3_Ev _ _ _ _ 244 [(2, 40), (0, l1), (0, l2), (0, (H 91 l1)), (3, 0)] [(0, x21)] H19 G20 _
          refine e3_br (M := tbM252) rfl rfl rfl Iff.rfl (fun hc => ?_) (fun hc => ?_)
          · replace h := h.1 hc
            refine e3_fgt [false, false, false, false, false] ?_
            exact sM_stands_251 L xs Q _ _ h
          · replace h := h.2 hc
            refine e3_K [0, 0] 252 [(2, 40), (0, l1), (0, l2), (0, (H 91 l1)), (3, 0)] [(0, 1)] (H19) (G20) (wZ L xs) (M := tbM252) rfl rfl trivial ?_
            refine e3_fgt [false, false, false, false, false] ?_
            exact sM_stands_252 L xs Q _ _ _ h
set_option maxRecDepth 100000 in
set_option maxHeartbeats 4000000 in
theorem sM_stands (L : Nat) (xs : Nat → Int32) (Q : Int → e3_H → e3_G → Prop) (l1 : Int) (H : e3_H) (G : e3_G) (h : wM_stands Q l1 H G) : e3_Ev (wB L xs) 1 23 252 0 [(2, 40), (0, l1), (3, 0), (3, 0), (3, 0)] [] H G (e3_q0 Q) := by
  unfold wM_stands at h
  refine e3_K [0, 0, 0, 0] 5 [(2, 40), (0, l1), (0, (-4)), (0, 0), (3, 0)] [] (H) (G) (wZ L xs) (M := tbM252) rfl rfl trivial ?_
  obtain ⟨nl, h⟩ := h
  exact sM_stands_5 L xs Q nl _ _ _ _ _ h
