/-- LetterPostModel.guarded(I)I -/
def wM_guarded_58 (Q : Int → e3_H → e3_G → Prop)  (H : e3_H) (G : e3_G) : Prop :=
  Q 2 H G
def wM_guarded_122 (Q : Int → e3_H → e3_G → Prop) (s0 : Int) (H : e3_H) (G : e3_G) : Prop :=
  Q s0 H G
def wM_guarded_121 (Q : Int → e3_H → e3_G → Prop)  (H : e3_H) (G : e3_G) : Prop :=
  (wM_guarded_122 Q 0 H G)
def wM_guarded_117 (Q : Int → e3_H → e3_G → Prop)  (H : e3_H) (G : e3_G) : Prop :=
  (wM_guarded_122 Q 1 H G)
def wM_guarded_30 (Q : Int → e3_H → e3_G → Prop) (l1 : Int) (H : e3_H) (G : e3_G) : Prop :=
  ∀ H1 : e3_H, H1 = e3_up H 40 123 (e3_w32 ((H 40 123) + 1)) → (wM_isThrown (fun x4 H2 G3 => (((x4 : Int) = 0 → (wM_isThrown (fun x7 H5 G6 => (((x7 : Int) = 0 → (wM_sum (fun x10 H8 G9 => (wM_sum (fun x13 H11 G12 => ((0 : Int) ≤ l1 ∧ (l1 : Int) < 192) ∧ ((((H11 78 l1) : Int) = 60 → (((x10 : Int) < x13 → (wM_guarded_117 Q H11 G12)) ∧ (¬ ((x10 : Int) < x13) → (wM_guarded_121 Q H11 G12)))) ∧ (¬ (((H11 78 l1) : Int) = 60) → ((((H11 78 l1) : Int) = 62 → (((x13 : Int) < x10 → (wM_guarded_117 Q H11 G12)) ∧ (¬ ((x13 : Int) < x10) → (wM_guarded_121 Q H11 G12)))) ∧ (¬ (((H11 78 l1) : Int) = 62) → (((x10 : Int) = x13 → (wM_guarded_117 Q H11 G12)) ∧ (¬ ((x10 : Int) = x13) → (wM_guarded_121 Q H11 G12)))))))) l1 1 H8 G9)) l1 0 H5 G6)) ∧ (¬ ((x7 : Int) = 0) → (wM_guarded_58 Q H5 G6)))) l1 1 H2 G3)) ∧ (¬ ((x4 : Int) = 0) → (wM_guarded_58 Q H2 G3)))) l1 0 H1 G)
def wM_guarded (Q : Int → e3_H → e3_G → Prop) (l1 : Int) (H : e3_H) (G : e3_G) : Prop :=
  ((((H 40 123) : Int) < 32 → ((16 : Int) ≠ 0) ∧ ((16 : Int) ≠ 0) ∧ ((0 : Int) ≤ (H 40 123) ∧ ((H 40 123) : Int) < 32) ∧ ∀ H1 : e3_H, H1 = e3_up H 137 (H 40 123) (e3_w32 ((e3_w32 (100 * (e3_div l1 16))) + (e3_rem l1 16))) → (wM_guarded_30 Q l1 H1 G)) ∧ (¬ (((H 40 123) : Int) < 32) → (wM_guarded_30 Q l1 H G)))
set_option maxRecDepth 100000 in
set_option maxHeartbeats 4000000 in
theorem sM_guarded_58 (L : Nat) (xs : Nat → Int32) (Q : Int → e3_H → e3_G → Prop)  (H : e3_H) (G : e3_G) (h : wM_guarded_58 Q  H G) : e3_Ev (wB L xs) 2 46 290 58 [(3, 0), (3, 0), (3, 0), (3, 0), (3, 0)] [] H G (e3_q0 Q) := by
  unfold wM_guarded_58 at h
  refine e3_K [0] 59 [(3, 0), (3, 0), (3, 0), (3, 0), (3, 0)] [(0, 2)] (H) (G) (wZ L xs) (M := tbM290) rfl rfl trivial ?_
  exact e3_reti (M := tbM290) rfl rfl rfl ⟨_, rfl, h⟩
set_option maxRecDepth 100000 in
set_option maxHeartbeats 4000000 in
theorem sM_guarded_122 (L : Nat) (xs : Nat → Int32) (Q : Int → e3_H → e3_G → Prop) (s0 : Int) (H : e3_H) (G : e3_G) (h : wM_guarded_122 Q s0 H G) : e3_Ev (wB L xs) 2 46 290 122 [(3, 0), (3, 0), (3, 0), (3, 0), (3, 0)] [(0, s0)] H G (e3_q0 Q) := by
  unfold wM_guarded_122 at h
  exact e3_reti (M := tbM290) rfl rfl rfl ⟨_, rfl, h⟩
set_option maxRecDepth 100000 in
set_option maxHeartbeats 4000000 in
theorem sM_guarded_121 (L : Nat) (xs : Nat → Int32) (Q : Int → e3_H → e3_G → Prop)  (H : e3_H) (G : e3_G) (h : wM_guarded_121 Q  H G) : e3_Ev (wB L xs) 2 46 290 121 [(3, 0), (3, 0), (3, 0), (3, 0), (3, 0)] [] H G (e3_q0 Q) := by
  unfold wM_guarded_121 at h
  refine e3_K [0] 122 [(3, 0), (3, 0), (3, 0), (3, 0), (3, 0)] [(0, 0)] (H) (G) (wZ L xs) (M := tbM290) rfl rfl trivial ?_
  exact sM_guarded_122 L xs Q _ _ _ h
set_option maxRecDepth 100000 in
set_option maxHeartbeats 4000000 in
theorem sM_guarded_117 (L : Nat) (xs : Nat → Int32) (Q : Int → e3_H → e3_G → Prop)  (H : e3_H) (G : e3_G) (h : wM_guarded_117 Q  H G) : e3_Ev (wB L xs) 2 46 290 117 [(3, 0), (3, 0), (3, 0), (3, 0), (3, 0)] [] H G (e3_q0 Q) := by
  unfold wM_guarded_117 at h
  refine e3_K [0, 0] 122 [(3, 0), (3, 0), (3, 0), (3, 0), (3, 0)] [(0, 1)] (H) (G) (wZ L xs) (M := tbM290) rfl rfl trivial ?_
  exact sM_guarded_122 L xs Q _ _ _ h
set_option maxRecDepth 100000 in
set_option maxHeartbeats 4000000 in
theorem sM_guarded_30 (L : Nat) (xs : Nat → Int32) (Q : Int → e3_H → e3_G → Prop) (l1 : Int) (H : e3_H) (G : e3_G) (h : wM_guarded_30 Q l1 H G) : e3_Ev (wB L xs) 2 46 290 30 [(2, 40), (0, l1), (3, 0), (3, 0), (3, 0)] [] H G (e3_q0 Q) := by
  unfold wM_guarded_30 at h
  refine e3_K [0, 0, 2, 0, 0, 2] 40 [(2, 40), (0, l1), (3, 0), (3, 0), (3, 0)] [] (e3_up H 40 123 (e3_w32 ((H 40 123) + 1))) (G) (wZ L xs) (M := tbM290) rfl rfl ⟨trivial, trivial, trivial⟩ ?_
  generalize hH1 : (e3_up H 40 123 (e3_w32 ((H 40 123) + 1))) = H1
  replace h := h H1 hH1.symm
  refine e3_K [0, 0, 0] 43 [(2, 40), (0, l1), (3, 0), (3, 0), (3, 0)] [(0, 0), (0, l1), (2, 40)] (H1) (G) (wZ L xs) (M := tbM290) rfl rfl trivial ?_
  refine e3_call (o := 0) (k := 291) (M2 := tbM291) (f1 := 1) (w1 := 21) (as := [(2, 40), (0, l1), (0, 0)]) (rest := []) (M := tbM290) rfl rfl rfl trivial (Nat.le_of_ble_eq_true rfl) (Nat.le_of_ble_eq_true rfl) (Nat.le_of_ble_eq_true rfl) ?_
  refine e3_mono (sM_isThrown L xs _ _ _ _ _ h) (fun r H2 G3 h => ?_)
  obtain ⟨x4, rfl, h⟩ := h
  change e3_Ev _ _ _ _ 46 [(2, 40), (0, l1), (3, 0), (3, 0), (3, 0)] [(0, x4)] H2 G3 _
  refine e3_br (M := tbM290) rfl rfl rfl Iff.rfl (fun hc => ?_) (fun hc => ?_)
  · replace h := h.1 hc
    refine e3_K [0, 0, 0] 52 [(2, 40), (0, l1), (3, 0), (3, 0), (3, 0)] [(0, 1), (0, l1), (2, 40)] (H2) (G3) (wZ L xs) (M := tbM290) rfl rfl trivial ?_
    refine e3_call (o := 0) (k := 291) (M2 := tbM291) (f1 := 1) (w1 := 21) (as := [(2, 40), (0, l1), (0, 1)]) (rest := []) (M := tbM290) rfl rfl rfl trivial (Nat.le_of_ble_eq_true rfl) (Nat.le_of_ble_eq_true rfl) (Nat.le_of_ble_eq_true rfl) ?_
    refine e3_mono (sM_isThrown L xs _ _ _ _ _ h) (fun r H5 G6 h => ?_)
    obtain ⟨x7, rfl, h⟩ := h
    change e3_Ev _ _ _ _ 55 [(2, 40), (0, l1), (3, 0), (3, 0), (3, 0)] [(0, x7)] H5 G6 _
    refine e3_br (M := tbM290) rfl rfl rfl Iff.rfl (fun hc => ?_) (fun hc => ?_)
    · replace h := h.1 hc
      refine e3_K [0, 0, 0] 63 [(2, 40), (0, l1), (3, 0), (3, 0), (3, 0)] [(0, 0), (0, l1), (2, 40)] (H5) (G6) (wZ L xs) (M := tbM290) rfl rfl trivial ?_
      refine e3_call (o := 0) (k := 293) (M2 := tbM293) (f1 := 1) (w1 := 21) (as := [(2, 40), (0, l1), (0, 0)]) (rest := []) (M := tbM290) rfl rfl rfl trivial (Nat.le_of_ble_eq_true rfl) (Nat.le_of_ble_eq_true rfl) (Nat.le_of_ble_eq_true rfl) ?_
      refine e3_mono (sM_sum L xs _ _ _ _ _ h) (fun r H8 G9 h => ?_)
      obtain ⟨x10, rfl, h⟩ := h
      change e3_Ev _ _ _ _ 66 [(2, 40), (0, l1), (3, 0), (3, 0), (3, 0)] [(0, x10)] H8 G9 _
      refine e3_K [0, 0, 0, 0] 70 [(2, 40), (0, l1), (0, x10), (3, 0), (3, 0)] [(0, 1), (0, l1), (2, 40)] (H8) (G9) (wZ L xs) (M := tbM290) rfl rfl trivial ?_
      refine e3_call (o := 0) (k := 293) (M2 := tbM293) (f1 := 1) (w1 := 21) (as := [(2, 40), (0, l1), (0, 1)]) (rest := []) (M := tbM290) rfl rfl rfl trivial (Nat.le_of_ble_eq_true rfl) (Nat.le_of_ble_eq_true rfl) (Nat.le_of_ble_eq_true rfl) ?_
      refine e3_mono (sM_sum L xs _ _ _ _ _ h) (fun r H11 G12 h => ?_)
      obtain ⟨x13, rfl, h⟩ := h
      change e3_Ev _ _ _ _ 73 [(2, 40), (0, l1), (0, x10), (3, 0), (3, 0)] [(0, x13)] H11 G12 _
      obtain ⟨o14, h⟩ := h
      refine e3_K [0, 0, 4, 0, 2, 0, 0, 0] 86 [(2, 40), (0, l1), (0, x10), (0, x13), (0, (H11 78 l1))] [(0, 60), (0, (H11 78 l1))] (H11) (G12) (wZ L xs) (M := tbM290) rfl rfl ⟨trivial, o14, trivial⟩ ?_
      refine e3_br (M := tbM290) rfl rfl rfl Iff.rfl (fun hc => ?_) (fun hc => ?_)
      · replace h := h.1 hc
        refine e3_K [0, 0] 91 [(2, 40), (0, l1), (0, x10), (0, x13), (0, (H11 78 l1))] [(0, x13), (0, x10)] (H11) (G12) (wZ L xs) (M := tbM290) rfl rfl trivial ?_
        refine e3_br (M := tbM290) rfl rfl rfl Iff.rfl (fun hc => ?_) (fun hc => ?_)
        · replace h := h.1 hc
          refine e3_K [0] 117 [(2, 40), (0, l1), (0, x10), (0, x13), (0, (H11 78 l1))] [] (H11) (G12) (wZ L xs) (M := tbM290) rfl rfl trivial ?_
          refine e3_fgt [false, false, false, false, false] ?_
          exact sM_guarded_117 L xs Q _ _ h
        · replace h := h.2 hc
          refine e3_fgt [false, false, false, false, false] ?_
          exact sM_guarded_121 L xs Q _ _ h
      · replace h := h.2 hc
        refine e3_K [0, 0] 101 [(2, 40), (0, l1), (0, x10), (0, x13), (0, (H11 78 l1))] [(0, 62), (0, (H11 78 l1))] (H11) (G12) (wZ L xs) (M := tbM290) rfl rfl trivial ?_
        refine e3_br (M := tbM290) rfl rfl rfl Iff.rfl (fun hc => ?_) (fun hc => ?_)
        · replace h := h.1 hc
          refine e3_K [0, 0] 106 [(2, 40), (0, l1), (0, x10), (0, x13), (0, (H11 78 l1))] [(0, x13), (0, x10)] (H11) (G12) (wZ L xs) (M := tbM290) rfl rfl trivial ?_
          refine e3_br (M := tbM290) rfl rfl rfl Iff.rfl (fun hc => ?_) (fun hc => ?_)
          · replace h := h.1 hc
            refine e3_K [0] 117 [(2, 40), (0, l1), (0, x10), (0, x13), (0, (H11 78 l1))] [] (H11) (G12) (wZ L xs) (M := tbM290) rfl rfl trivial ?_
            refine e3_fgt [false, false, false, false, false] ?_
            exact sM_guarded_117 L xs Q _ _ h
          · replace h := h.2 hc
            refine e3_fgt [false, false, false, false, false] ?_
            exact sM_guarded_121 L xs Q _ _ h
        · replace h := h.2 hc
          refine e3_K [0, 0] 114 [(2, 40), (0, l1), (0, x10), (0, x13), (0, (H11 78 l1))] [(0, x13), (0, x10)] (H11) (G12) (wZ L xs) (M := tbM290) rfl rfl trivial ?_
          refine e3_br (M := tbM290) rfl rfl rfl Iff.rfl (fun hc => ?_) (fun hc => ?_)
          · replace h := h.1 hc
            refine e3_fgt [false, false, false, false, false] ?_
            exact sM_guarded_117 L xs Q _ _ h
          · replace h := h.2 hc
            refine e3_fgt [false, false, false, false, false] ?_
            exact sM_guarded_121 L xs Q _ _ h
    · replace h := h.2 hc
      refine e3_fgt [false, false, false, false, false] ?_
      exact sM_guarded_58 L xs Q _ _ h
  · replace h := h.2 hc
    refine e3_fgt [false, false, false, false, false] ?_
    exact sM_guarded_58 L xs Q _ _ h
set_option maxRecDepth 100000 in
set_option maxHeartbeats 4000000 in
theorem sM_guarded (L : Nat) (xs : Nat → Int32) (Q : Int → e3_H → e3_G → Prop) (l1 : Int) (H : e3_H) (G : e3_G) (h : wM_guarded Q l1 H G) : e3_Ev (wB L xs) 2 46 290 0 [(2, 40), (0, l1), (3, 0), (3, 0), (3, 0)] [] H G (e3_q0 Q) := by
  unfold wM_guarded at h
  refine e3_K [0, 2, 0] 6 [(2, 40), (0, l1), (3, 0), (3, 0), (3, 0)] [(0, 32), (0, (H 40 123))] (H) (G) (wZ L xs) (M := tbM290) rfl rfl ⟨trivial, trivial⟩ ?_
  refine e3_br (M := tbM290) rfl rfl rfl Iff.rfl (fun hc => ?_) (fun hc => ?_)
  · replace h := h.1 hc
    obtain ⟨o2, o3, o4, h⟩ := h
    refine e3_K [0, 4, 0, 2, 0, 0, 0, 1, 0, 0, 0, 1, 0, 2] 30 [(2, 40), (0, l1), (3, 0), (3, 0), (3, 0)] [] (e3_up H 137 (H 40 123) (e3_w32 ((e3_w32 (100 * (e3_div l1 16))) + (e3_rem l1 16)))) (G) (wZ L xs) (M := tbM290) rfl rfl ⟨trivial, trivial, o2, o3, o4, trivial⟩ ?_
    generalize hH1 : (e3_up H 137 (H 40 123) (e3_w32 ((e3_w32 (100 * (e3_div l1 16))) + (e3_rem l1 16)))) = H1
    replace h := h H1 hH1.symm
    exact sM_guarded_30 L xs Q _ _ _ h
  · replace h := h.2 hc
    exact sM_guarded_30 L xs Q _ _ _ h
/-- LetterPostModel.standing(I)I -/
def wM_standing_35 (Q : Int → e3_H → e3_G → Prop) : Nat → Int → Int → Int → e3_H → e3_G → Prop
  | 0, _, _, _, _, _ => False
  | nn + 1, l1, l4, l5, H, G => (((l5 : Int) < 0 → Q l4 H G) ∧ (¬ ((l5 : Int) < 0) → ((0 : Int) ≤ (e3_w32 ((e3_w32 ((e3_w32 (4 * l4)) + (e3_and (e3_shr l1 l5) 7))) - 1)) ∧ ((e3_w32 ((e3_w32 ((e3_w32 (4 * l4)) + (e3_and (e3_shr l1 l5) 7))) - 1)) : Int) < 640) ∧ (wM_standing_35 Q nn l1 (H 132 (e3_w32 ((e3_w32 ((e3_w32 (4 * l4)) + (e3_and (e3_shr l1 l5) 7))) - 1))) (e3_w32 (l5 + (-3))) H G)))
def wM_standing_4 (Q : Int → e3_H → e3_G → Prop) : Nat → Int → Int → Int → e3_H → e3_G → Prop
  | 0, _, _, _, _, _ => False
  | nn + 1, l1, l2, l3, H, G => (((7 : Int) < l2 → (wM_standing_4 Q nn l1 (e3_shr l2 3) (e3_w32 (l3 + 3)) H G)) ∧ (¬ ((7 : Int) < l2) → ((0 : Int) ≤ (e3_w32 (l2 - 1)) ∧ ((e3_w32 (l2 - 1)) : Int) < 3) ∧ (∃ n, wM_standing_35 Q n l1 (H 135 (e3_w32 (l2 - 1))) (e3_w32 (l3 - 3)) H G)))
def wM_standing (Q : Int → e3_H → e3_G → Prop) (l1 : Int) (H : e3_H) (G : e3_G) : Prop :=
  (∃ n, wM_standing_4 Q n l1 l1 0 H G)
set_option maxRecDepth 100000 in
set_option maxHeartbeats 4000000 in
theorem sM_standing_35 (L : Nat) (xs : Nat → Int32) (Q : Int → e3_H → e3_G → Prop) : ∀ (nl : Nat) (l1 : Int) (l4 : Int) (l5 : Int) (H : e3_H) (G : e3_G), wM_standing_35 Q nl l1 l4 l5 H G → e3_Ev (wB L xs) 0 0 294 35 [(2, 40), (0, l1), (3, 0), (3, 0), (0, l4), (0, l5)] [] H G (e3_q0 Q) := by
  intro nl
  induction nl with
  | zero => intro l1 l4 l5 H G h; exact h.elim
  | succ nn ih =>
    intro l1 l4 l5 H G h
    have h : (((l5 : Int) < 0 → Q l4 H G) ∧ (¬ ((l5 : Int) < 0) → ((0 : Int) ≤ (e3_w32 ((e3_w32 ((e3_w32 (4 * l4)) + (e3_and (e3_shr l1 l5) 7))) - 1)) ∧ ((e3_w32 ((e3_w32 ((e3_w32 (4 * l4)) + (e3_and (e3_shr l1 l5) 7))) - 1)) : Int) < 640) ∧ (wM_standing_35 Q nn l1 (H 132 (e3_w32 ((e3_w32 ((e3_w32 (4 * l4)) + (e3_and (e3_shr l1 l5) 7))) - 1))) (e3_w32 (l5 + (-3))) H G))) := h
    refine e3_K [0] 37 [(2, 40), (0, l1), (3, 0), (3, 0), (0, l4), (0, l5)] [(0, l5)] (H) (G) (wZ L xs) (M := tbM294) rfl rfl trivial ?_
    refine e3_br (M := tbM294) rfl rfl rfl Iff.rfl (fun hc => ?_) (fun hc => ?_)
    · replace h := h.1 hc
      refine e3_K [0] 69 [(2, 40), (0, l1), (3, 0), (3, 0), (0, l4), (0, l5)] [(0, l4)] (H) (G) (wZ L xs) (M := tbM294) rfl rfl trivial ?_
      exact e3_reti (M := tbM294) rfl rfl rfl ⟨_, rfl, h⟩
    · replace h := h.2 hc
      obtain ⟨o1, h⟩ := h
      refine e3_K [0, 4, 0, 0, 0, 0, 0, 0, 0, 0, 0, 0, 0, 2, 0, 0, 0] 35 [(2, 40), (0, l1), (3, 0), (3, 0), (0, (H 132 (e3_w32 ((e3_w32 ((e3_w32 (4 * l4)) + (e3_and (e3_shr l1 l5) 7))) - 1)))), (0, (e3_w32 (l5 + (-3))))] [] (H) (G) (wZ L xs) (M := tbM294) rfl rfl ⟨trivial, o1, trivial⟩ ?_
      exact ih _ _ _ _ _ h
set_option maxRecDepth 100000 in
set_option maxHeartbeats 4000000 in
theorem sM_standing_4 (L : Nat) (xs : Nat → Int32) (Q : Int → e3_H → e3_G → Prop) : ∀ (nl : Nat) (l1 : Int) (l2 : Int) (l3 : Int) (H : e3_H) (G : e3_G), wM_standing_4 Q nl l1 l2 l3 H G → e3_Ev (wB L xs) 0 0 294 4 [(2, 40), (0, l1), (0, l2), (0, l3), (3, 0), (3, 0)] [] H G (e3_q0 Q) := by
  intro nl
  induction nl with
  | zero => intro l1 l2 l3 H G h; exact h.elim
  | succ nn ih =>
    intro l1 l2 l3 H G h
    have h : (((7 : Int) < l2 → (wM_standing_4 Q nn l1 (e3_shr l2 3) (e3_w32 (l3 + 3)) H G)) ∧ (¬ ((7 : Int) < l2) → ((0 : Int) ≤ (e3_w32 (l2 - 1)) ∧ ((e3_w32 (l2 - 1)) : Int) < 3) ∧ (∃ n, wM_standing_35 Q n l1 (H 135 (e3_w32 (l2 - 1))) (e3_w32 (l3 - 3)) H G))) := h
    refine e3_K [0, 0] 7 [(2, 40), (0, l1), (0, l2), (0, l3), (3, 0), (3, 0)] [(0, 7), (0, l2)] (H) (G) (wZ L xs) (M := tbM294) rfl rfl trivial ?_
    refine e3_br (M := tbM294) rfl rfl rfl Iff.rfl (fun hc => ?_) (fun hc => ?_)
    · replace h := h.1 hc
      refine e3_K [0, 0, 0, 0, 0, 0] 4 [(2, 40), (0, l1), (0, (e3_shr l2 3)), (0, (e3_w32 (l3 + 3))), (3, 0), (3, 0)] [] (H) (G) (wZ L xs) (M := tbM294) rfl rfl trivial ?_
      exact ih _ _ _ _ _ h
    · replace h := h.2 hc
      obtain ⟨o1, h⟩ := h
      refine e3_K [0, 4, 0, 0, 0, 2, 0, 0, 0, 0, 0] 35 [(2, 40), (0, l1), (0, l2), (0, l3), (0, (H 135 (e3_w32 (l2 - 1)))), (0, (e3_w32 (l3 - 3)))] [] (H) (G) (wZ L xs) (M := tbM294) rfl rfl ⟨trivial, o1, trivial⟩ ?_
      refine e3_fgt [true, true, false, false, true, true] ?_
      obtain ⟨nl, h⟩ := h
      exact sM_standing_35 L xs Q nl _ _ _ _ _ h
set_option maxRecDepth 100000 in
set_option maxHeartbeats 4000000 in
theorem sM_standing (L : Nat) (xs : Nat → Int32) (Q : Int → e3_H → e3_G → Prop) (l1 : Int) (H : e3_H) (G : e3_G) (h : wM_standing Q l1 H G) : e3_Ev (wB L xs) 0 0 294 0 [(2, 40), (0, l1), (3, 0), (3, 0), (3, 0), (3, 0)] [] H G (e3_q0 Q) := by
  unfold wM_standing at h
  refine e3_K [0, 0, 0, 0] 4 [(2, 40), (0, l1), (0, l1), (0, 0), (3, 0), (3, 0)] [] (H) (G) (wZ L xs) (M := tbM294) rfl rfl trivial ?_
  obtain ⟨nl, h⟩ := h
  exact sM_standing_4 L xs Q nl _ _ _ _ _ h
/-- LetterPostModel.isBranch(III)Z -/
def wM_isBranch_77 (Q : Int → e3_H → e3_G → Prop) (s0 : Int) (H : e3_H) (G : e3_G) : Prop :=
  ((s0 : Int) = 0 ∨ s0 = 1) ∧ Q s0 H G
def wM_isBranch_98 (Q : Int → e3_H → e3_G → Prop) (s0 : Int) (H : e3_H) (G : e3_G) : Prop :=
  ((s0 : Int) = 0 ∨ s0 = 1) ∧ Q s0 H G
def wM_isBranch_129 (Q : Int → e3_H → e3_G → Prop) (s0 : Int) (H : e3_H) (G : e3_G) : Prop :=
  ((s0 : Int) = 0 ∨ s0 = 1) ∧ Q s0 H G
def wM_isBranch_124 (Q : Int → e3_H → e3_G → Prop)  (H : e3_H) (G : e3_G) : Prop :=
  (wM_isBranch_129 Q 1 H G)
def wM_isBranch_165 (Q : Int → e3_H → e3_G → Prop) (s0 : Int) (H : e3_H) (G : e3_G) : Prop :=
  ((s0 : Int) = 0 ∨ s0 = 1) ∧ Q s0 H G
def wM_isBranch_164 (Q : Int → e3_H → e3_G → Prop)  (H : e3_H) (G : e3_G) : Prop :=
  (wM_isBranch_165 Q 0 H G)
def wM_isBranch (Q : Int → e3_H → e3_G → Prop) (l1 : Int) (l2 : Int) (l3 : Int) (H : e3_H) (G : e3_G) : Prop :=
  (((l2 : Int) = 3 → ((0 : Int) ≤ l3 ∧ (l3 : Int) < 160) ∧ ((((H 128 l3) : Int) = 3 → ((0 : Int) ≤ l1 ∧ (l1 : Int) < 3900) ∧ ((((H 111 l1) : Int) = (-4) → (wM_isBranch_77 Q 1 H G)) ∧ (¬ (((H 111 l1) : Int) = (-4)) → (wM_isBranch_77 Q 0 H G)))) ∧ (¬ (((H 128 l3) : Int) = 3) → ((0 : Int) ≤ l1 ∧ (l1 : Int) < 3900) ∧ ((0 : Int) ≤ l3 ∧ (l3 : Int) < 160) ∧ ((((H 111 l1) : Int) = (H 129 l3) → (wM_isBranch_77 Q 1 H G)) ∧ (¬ (((H 111 l1) : Int) = (H 129 l3)) → (wM_isBranch_77 Q 0 H G)))))) ∧ ((l2 : Int) = 4 → ((0 : Int) ≤ l1 ∧ (l1 : Int) < 3900) ∧ ((0 : Int) ≤ l3 ∧ (l3 : Int) < 160) ∧ ((((H 111 l1) : Int) = (H 129 l3) → (wM_isBranch_98 Q 1 H G)) ∧ (¬ (((H 111 l1) : Int) = (H 129 l3)) → (wM_isBranch_98 Q 0 H G)))) ∧ ((l2 : Int) = 5 → ((0 : Int) ≤ l1 ∧ (l1 : Int) < 3900) ∧ ((((H 114 l1) : Int) = 0 → ((0 : Int) ≤ l1 ∧ (l1 : Int) < 3900) ∧ ((0 : Int) ≤ l3 ∧ (l3 : Int) < 160) ∧ ((((H 113 l1) : Int) = (H 130 l3) → (wM_isBranch_124 Q H G)) ∧ (¬ (((H 113 l1) : Int) = (H 130 l3)) → (wM_isBranch_129 Q 0 H G)))) ∧ (¬ (((H 114 l1) : Int) = 0) → (wM_isBranch_124 Q H G)))) ∧ ((l2 : Int) < 3 ∨ 5 < l2 → ((0 : Int) ≤ l3 ∧ (l3 : Int) < 160) ∧ ((0 : Int) ≤ l1 ∧ (l1 : Int) < 3900) ∧ ((((H 129 l3) : Int) < (H 111 l1) → (wM_isBranch_164 Q H G)) ∧ (¬ (((H 129 l3) : Int) < (H 111 l1)) → ((0 : Int) ≤ l3 ∧ (l3 : Int) < 160) ∧ ((0 : Int) ≤ l1 ∧ (l1 : Int) < 3900) ∧ ((((H 112 l1) : Int) < (H 129 l3) → (wM_isBranch_164 Q H G)) ∧ (¬ (((H 112 l1) : Int) < (H 129 l3)) → (wM_isBranch_165 Q 1 H G)))))))
set_option maxRecDepth 100000 in
set_option maxHeartbeats 4000000 in
theorem sM_isBranch_77 (L : Nat) (xs : Nat → Int32) (Q : Int → e3_H → e3_G → Prop) (s0 : Int) (H : e3_H) (G : e3_G) (h : wM_isBranch_77 Q s0 H G) : e3_Ev (wB L xs) 0 0 295 77 [(3, 0), (3, 0), (3, 0), (3, 0)] [(0, s0)] H G (e3_q0 Q) := by
  unfold wM_isBranch_77 at h
  exact e3_retb (M := tbM295) rfl rfl rfl h.1 ⟨_, rfl, h.2⟩
set_option maxRecDepth 100000 in
set_option maxHeartbeats 4000000 in
theorem sM_isBranch_98 (L : Nat) (xs : Nat → Int32) (Q : Int → e3_H → e3_G → Prop) (s0 : Int) (H : e3_H) (G : e3_G) (h : wM_isBranch_98 Q s0 H G) : e3_Ev (wB L xs) 0 0 295 98 [(3, 0), (3, 0), (3, 0), (3, 0)] [(0, s0)] H G (e3_q0 Q) := by
  unfold wM_isBranch_98 at h
  exact e3_retb (M := tbM295) rfl rfl rfl h.1 ⟨_, rfl, h.2⟩
set_option maxRecDepth 100000 in
set_option maxHeartbeats 4000000 in
theorem sM_isBranch_129 (L : Nat) (xs : Nat → Int32) (Q : Int → e3_H → e3_G → Prop) (s0 : Int) (H : e3_H) (G : e3_G) (h : wM_isBranch_129 Q s0 H G) : e3_Ev (wB L xs) 0 0 295 129 [(3, 0), (3, 0), (3, 0), (3, 0)] [(0, s0)] H G (e3_q0 Q) := by
  unfold wM_isBranch_129 at h
  exact e3_retb (M := tbM295) rfl rfl rfl h.1 ⟨_, rfl, h.2⟩
set_option maxRecDepth 100000 in
set_option maxHeartbeats 4000000 in
theorem sM_isBranch_124 (L : Nat) (xs : Nat → Int32) (Q : Int → e3_H → e3_G → Prop)  (H : e3_H) (G : e3_G) (h : wM_isBranch_124 Q  H G) : e3_Ev (wB L xs) 0 0 295 124 [(3, 0), (3, 0), (3, 0), (3, 0)] [] H G (e3_q0 Q) := by
  unfold wM_isBranch_124 at h
  refine e3_K [0, 0] 129 [(3, 0), (3, 0), (3, 0), (3, 0)] [(0, 1)] (H) (G) (wZ L xs) (M := tbM295) rfl rfl trivial ?_
  exact sM_isBranch_129 L xs Q _ _ _ h
set_option maxRecDepth 100000 in
set_option maxHeartbeats 4000000 in
theorem sM_isBranch_165 (L : Nat) (xs : Nat → Int32) (Q : Int → e3_H → e3_G → Prop) (s0 : Int) (H : e3_H) (G : e3_G) (h : wM_isBranch_165 Q s0 H G) : e3_Ev (wB L xs) 0 0 295 165 [(3, 0), (3, 0), (3, 0), (3, 0)] [(0, s0)] H G (e3_q0 Q) := by
  unfold wM_isBranch_165 at h
  exact e3_retb (M := tbM295) rfl rfl rfl h.1 ⟨_, rfl, h.2⟩
set_option maxRecDepth 100000 in
set_option maxHeartbeats 4000000 in
theorem sM_isBranch_164 (L : Nat) (xs : Nat → Int32) (Q : Int → e3_H → e3_G → Prop)  (H : e3_H) (G : e3_G) (h : wM_isBranch_164 Q  H G) : e3_Ev (wB L xs) 0 0 295 164 [(3, 0), (3, 0), (3, 0), (3, 0)] [] H G (e3_q0 Q) := by
  unfold wM_isBranch_164 at h
  refine e3_K [0] 165 [(3, 0), (3, 0), (3, 0), (3, 0)] [(0, 0)] (H) (G) (wZ L xs) (M := tbM295) rfl rfl trivial ?_
  exact sM_isBranch_165 L xs Q _ _ _ h
set_option maxRecDepth 100000 in
set_option maxHeartbeats 4000000 in
theorem sM_isBranch (L : Nat) (xs : Nat → Int32) (Q : Int → e3_H → e3_G → Prop) (l1 : Int) (l2 : Int) (l3 : Int) (H : e3_H) (G : e3_G) (h : wM_isBranch Q l1 l2 l3 H G) : e3_Ev (wB L xs) 0 0 295 0 [(2, 40), (0, l1), (0, l2), (0, l3)] [] H G (e3_q0 Q) := by
  unfold wM_isBranch at h
  refine e3_K [0] 1 [(2, 40), (0, l1), (0, l2), (0, l3)] [(0, l2)] (H) (G) (wZ L xs) (M := tbM295) rfl rfl trivial ?_
  by_cases hc0 : (l2 : Int) = 3
  · replace h := h.1 hc0
    refine e3_sw (M := tbM295) rfl rfl hc0 rfl ?_
    obtain ⟨o1, h⟩ := h
    refine e3_K [0, 4, 0, 2, 0] 35 [(2, 40), (0, l1), (0, l2), (0, l3)] [(0, 3), (0, (H 128 l3))] (H) (G) (wZ L xs) (M := tbM295) rfl rfl ⟨trivial, o1, trivial⟩ ?_
    refine e3_br (M := tbM295) rfl rfl rfl Iff.rfl (fun hc => ?_) (fun hc => ?_)
    · replace h := h.1 hc
      obtain ⟨o2, h⟩ := h
      refine e3_K [0, 4, 0, 2, 0] 46 [(2, 40), (0, l1), (0, l2), (0, l3)] [(0, (-4)), (0, (H 111 l1))] (H) (G) (wZ L xs) (M := tbM295) rfl rfl ⟨trivial, o2, trivial⟩ ?_
      refine e3_br (M := tbM295) rfl rfl rfl Iff.rfl (fun hc => ?_) (fun hc => ?_)
      · replace h := h.1 hc
        refine e3_K [0, 0] 77 [(2, 40), (0, l1), (0, l2), (0, l3)] [(0, 1)] (H) (G) (wZ L xs) (M := tbM295) rfl rfl trivial ?_
        refine e3_fgt [false, false, false, false] ?_
        exact sM_isBranch_77 L xs Q _ _ _ h
      · replace h := h.2 hc
        refine e3_K [0, 0] 77 [(2, 40), (0, l1), (0, l2), (0, l3)] [(0, 0)] (H) (G) (wZ L xs) (M := tbM295) rfl rfl trivial ?_
        refine e3_fgt [false, false, false, false] ?_
        exact sM_isBranch_77 L xs Q _ _ _ h
    · replace h := h.2 hc
      obtain ⟨o3, o4, h⟩ := h
      refine e3_K [0, 4, 0, 2, 0, 4, 0, 2] 69 [(2, 40), (0, l1), (0, l2), (0, l3)] [(0, (H 129 l3)), (0, (H 111 l1))] (H) (G) (wZ L xs) (M := tbM295) rfl rfl ⟨trivial, o3, trivial, o4, trivial⟩ ?_
      refine e3_br (M := tbM295) rfl rfl rfl Iff.rfl (fun hc => ?_) (fun hc => ?_)
      · replace h := h.1 hc
        refine e3_K [0, 0] 77 [(2, 40), (0, l1), (0, l2), (0, l3)] [(0, 1)] (H) (G) (wZ L xs) (M := tbM295) rfl rfl trivial ?_
        refine e3_fgt [false, false, false, false] ?_
        exact sM_isBranch_77 L xs Q _ _ _ h
      · replace h := h.2 hc
        refine e3_K [0] 77 [(2, 40), (0, l1), (0, l2), (0, l3)] [(0, 0)] (H) (G) (wZ L xs) (M := tbM295) rfl rfl trivial ?_
        refine e3_fgt [false, false, false, false] ?_
        exact sM_isBranch_77 L xs Q _ _ _ h
  replace h := h.2
  by_cases hc1 : (l2 : Int) = 4
  · replace h := h.1 hc1
    refine e3_sw (M := tbM295) rfl rfl hc1 rfl ?_
    obtain ⟨o5, o6, h⟩ := h
    refine e3_K [0, 4, 0, 2, 0, 4, 0, 2] 90 [(2, 40), (0, l1), (0, l2), (0, l3)] [(0, (H 129 l3)), (0, (H 111 l1))] (H) (G) (wZ L xs) (M := tbM295) rfl rfl ⟨trivial, o5, trivial, o6, trivial⟩ ?_
    refine e3_br (M := tbM295) rfl rfl rfl Iff.rfl (fun hc => ?_) (fun hc => ?_)
    · replace h := h.1 hc
      refine e3_K [0, 0] 98 [(2, 40), (0, l1), (0, l2), (0, l3)] [(0, 1)] (H) (G) (wZ L xs) (M := tbM295) rfl rfl trivial ?_
      refine e3_fgt [false, false, false, false] ?_
      exact sM_isBranch_98 L xs Q _ _ _ h
    · replace h := h.2 hc
      refine e3_K [0] 98 [(2, 40), (0, l1), (0, l2), (0, l3)] [(0, 0)] (H) (G) (wZ L xs) (M := tbM295) rfl rfl trivial ?_
      refine e3_fgt [false, false, false, false] ?_
      exact sM_isBranch_98 L xs Q _ _ _ h
  replace h := h.2
  by_cases hc2 : (l2 : Int) = 5
  · replace h := h.1 hc2
    refine e3_sw (M := tbM295) rfl rfl hc2 rfl ?_
    obtain ⟨o7, h⟩ := h
    refine e3_K [0, 4, 0, 2] 105 [(2, 40), (0, l1), (0, l2), (0, l3)] [(0, (H 114 l1))] (H) (G) (wZ L xs) (M := tbM295) rfl rfl ⟨trivial, o7, trivial⟩ ?_
    refine e3_br (M := tbM295) rfl rfl rfl Iff.rfl (fun hc => ?_) (fun hc => ?_)
    · replace h := h.1 hc
      obtain ⟨o8, o9, h⟩ := h
      refine e3_K [0, 4, 0, 2, 0, 4, 0, 2, 0] 121 [(2, 40), (0, l1), (0, l2), (0, l3)] [(0, (e3_cmp (H 113 l1) (H 130 l3)))] (H) (G) (wZ L xs) (M := tbM295) rfl rfl ⟨trivial, o8, trivial, o9, trivial⟩ ?_
      refine e3_br (M := tbM295) rfl rfl rfl e3_cmp_eq (fun hc => ?_) (fun hc => ?_)
      · replace h := h.1 hc
        refine e3_fgt [false, false, false, false] ?_
        exact sM_isBranch_124 L xs Q _ _ h
      · replace h := h.2 hc
        refine e3_K [0] 129 [(2, 40), (0, l1), (0, l2), (0, l3)] [(0, 0)] (H) (G) (wZ L xs) (M := tbM295) rfl rfl trivial ?_
        refine e3_fgt [false, false, false, false] ?_
        exact sM_isBranch_129 L xs Q _ _ _ h
    · replace h := h.2 hc
      refine e3_fgt [false, false, false, false] ?_
      exact sM_isBranch_124 L xs Q _ _ h
  replace h := h.2
  replace h := h (by omega)
  refine e3_sw (M := tbM295) rfl rfl rfl ((e3_swdt (by omega)).trans rfl) ?_
  obtain ⟨o10, o11, h⟩ := h
  refine e3_K [0, 4, 0, 2, 0, 4, 0, 2] 142 [(2, 40), (0, l1), (0, l2), (0, l3)] [(0, (H 111 l1)), (0, (H 129 l3))] (H) (G) (wZ L xs) (M := tbM295) rfl rfl ⟨trivial, o10, trivial, o11, trivial⟩ ?_
  refine e3_br (M := tbM295) rfl rfl rfl Iff.rfl (fun hc => ?_) (fun hc => ?_)
  · replace h := h.1 hc
    refine e3_fgt [false, false, false, false] ?_
    exact sM_isBranch_164 L xs Q _ _ h
  · replace h := h.2 hc
    obtain ⟨o12, o13, h⟩ := h
    refine e3_K [0, 4, 0, 2, 0, 4, 0, 2] 157 [(2, 40), (0, l1), (0, l2), (0, l3)] [(0, (H 112 l1)), (0, (H 129 l3))] (H) (G) (wZ L xs) (M := tbM295) rfl rfl ⟨trivial, o12, trivial, o13, trivial⟩ ?_
    refine e3_br (M := tbM295) rfl rfl rfl Iff.rfl (fun hc => ?_) (fun hc => ?_)
    · replace h := h.1 hc
      refine e3_fgt [false, false, false, false] ?_
      exact sM_isBranch_164 L xs Q _ _ h
    · replace h := h.2 hc
      refine e3_K [0, 0] 165 [(2, 40), (0, l1), (0, l2), (0, l3)] [(0, 1)] (H) (G) (wZ L xs) (M := tbM295) rfl rfl trivial ?_
      refine e3_fgt [false, false, false, false] ?_
      exact sM_isBranch_165 L xs Q _ _ _ h
/-- LetterPostModel.byTree(I)I -/
def wM_byTree_120 (Q : Int → e3_H → e3_G → Prop) (s0 : Int) (H : e3_H) (G : e3_G) : Prop :=
  Q s0 H G
def wM_byTree_98 (Q : Int → e3_H → e3_G → Prop) (k6 : Int → e3_H → e3_G → Prop) (l2 : Int) (l5 : Int) (H : e3_H) (G : e3_G) : Prop :=
  (((0 : Int) < l5 → (((l5 : Int) = 1 → ((0 : Int) ≤ l2 ∧ (l2 : Int) < 3900) ∧ (wM_byTree_120 Q (H 103 l2) H G)) ∧ (¬ ((l5 : Int) = 1) → (wM_byTree_120 Q (-4) H G)))) ∧ (¬ ((0 : Int) < l5) → ((0 : Int) ≤ l2 ∧ (l2 : Int) < 3900) ∧ (k6 (H 108 l2) H G)))
def wM_byTree_72 (Q : Int → e3_H → e3_G → Prop) (k6 : Int → e3_H → e3_G → Prop) (l2 : Int) (s0 : Int) (H : e3_H) (G : e3_G) : Prop :=
  (((s0 : Int) = 2 → ∀ H1 : e3_H, H1 = e3_up H 40 119 3 → ((0 : Int) ≤ l2 ∧ (l2 : Int) < 3900) ∧ ((16 : Int) ≠ 0) ∧ ∀ H2 : e3_H, H2 = e3_up H1 40 125 (e3_rem (H1 103 l2) 16) → (wM_byTree_98 Q k6 l2 s0 H2 G)) ∧ (¬ ((s0 : Int) = 2) → (wM_byTree_98 Q k6 l2 s0 H G)))
def wM_byTree_35 (Q : Int → e3_H → e3_G → Prop) (k6 : Int → e3_H → e3_G → Prop) (l2 : Int) (l3 : Int) (H : e3_H) (G : e3_G) : Prop :=
  ((0 : Int) ≤ l2 ∧ (l2 : Int) < 3900) ∧ ((0 : Int) ≤ l2 ∧ (l2 : Int) < 3900) ∧ (wM_binds0 (fun x5 H3 G4 => (((l3 : Int) = 2 → ((0 : Int) ≤ l2 ∧ (l2 : Int) < 3900) ∧ (wM_guarded (fun x9 H7 G8 => (wM_byTree_72 Q k6 l2 x9 H7 G8)) (H3 103 l2) H3 G4)) ∧ (¬ ((l3 : Int) = 2) → (wM_byTree_72 Q k6 l2 1 H3 G4)))) (H 103 l2) (H 104 l2) H G)
def wM_byTree_187 (Q : Int → e3_H → e3_G → Prop) (k6 : Int → e3_H → e3_G → Prop) (l2 : Int) (H : e3_H) (G : e3_G) : Prop :=
  (((l2 : Int) = (-4) → ∀ H1 : e3_H, H1 = e3_up H 40 119 2 → Q (-4) H1 G) ∧ (¬ ((l2 : Int) = (-4)) → (k6 l2 H G)))
def wM_byTree_160 (Q : Int → e3_H → e3_G → Prop) (k6 : Int → e3_H → e3_G → Prop) : Nat → Int → Int → Int → e3_H → e3_G → Prop
  | 0, _, _, _, _, _ => False
  | nn + 1, l2, l3, l4, H, G => (((l2 : Int) = (-4) → (wM_byTree_187 Q k6 l2 H G)) ∧ (¬ ((l2 : Int) = (-4)) → (wM_isBranch (fun x3 H1 G2 => (((x3 : Int) = 0 → ((0 : Int) ≤ l2 ∧ (l2 : Int) < 3900) ∧ (wM_byTree_160 Q k6 nn (H1 110 l2) l3 l4 H1 G2)) ∧ (¬ ((x3 : Int) = 0) → (wM_byTree_187 Q k6 l2 H1 G2)))) l2 l3 l4 H G)))
def wM_byTree_6 (Q : Int → e3_H → e3_G → Prop) : Nat → Int → e3_H → e3_G → Prop
  | 0, _, _, _ => False
  | nn + 1, l2, H, G => ((0 : Int) ≤ l2 ∧ (l2 : Int) < 3900) ∧ ((((H 102 l2) : Int) = 0 → ∀ H2 : e3_H, H2 = e3_up H 40 119 1 → Q (-4) H2 G) ∧ (¬ (((H 102 l2) : Int) = 0) → ((((H 102 l2) : Int) = 1 → (wM_byTree_35 Q (fun l2 H G => wM_byTree_6 Q nn l2 H G) l2 (H 102 l2) H G)) ∧ (¬ (((H 102 l2) : Int) = 1) → ((((H 102 l2) : Int) = 2 → (wM_byTree_35 Q (fun l2 H G => wM_byTree_6 Q nn l2 H G) l2 (H 102 l2) H G)) ∧ (¬ (((H 102 l2) : Int) = 2) → ∀ H3 : e3_H, H3 = e3_up H 40 122 (e3_w32 ((H 40 122) + 1)) → ((0 : Int) ≤ l2 ∧ (l2 : Int) < 3900) ∧ (wM_standing (fun x7 H5 G6 => ((0 : Int) ≤ l2 ∧ (l2 : Int) < 3900) ∧ (∃ n, wM_byTree_160 Q (fun l2 H G => wM_byTree_6 Q nn l2 H G) n (H5 108 l2) (H 102 l2) x7 H5 G6)) (H3 105 l2) H3 G)))))))
def wM_byTree (Q : Int → e3_H → e3_G → Prop) (l1 : Int) (H : e3_H) (G : e3_G) : Prop :=
  (∃ n, wM_byTree_6 Q n (e3_w32 (300 * l1)) H G)
set_option maxRecDepth 100000 in
set_option maxHeartbeats 4000000 in
theorem sM_byTree_120 (L : Nat) (xs : Nat → Int32) (Q : Int → e3_H → e3_G → Prop) (s0 : Int) (H : e3_H) (G : e3_G) (h : wM_byTree_120 Q s0 H G) : e3_Ev (wB L xs) 3 77 287 120 [(3, 0), (3, 0), (3, 0), (3, 0), (3, 0), (3, 0)] [(0, s0)] H G (e3_q0 Q) := by
  unfold wM_byTree_120 at h
  exact e3_reti (M := tbM287) rfl rfl rfl ⟨_, rfl, h⟩
set_option maxRecDepth 100000 in
set_option maxHeartbeats 4000000 in
theorem sM_byTree_98 (L : Nat) (xs : Nat → Int32) (Q : Int → e3_H → e3_G → Prop) (k6 : Int → e3_H → e3_G → Prop) (hk6 : ∀ (l2 : Int) (H : e3_H) (G : e3_G), k6 l2 H G → e3_Ev (wB L xs) 3 77 287 6 [(2, 40), (3, 0), (0, l2), (3, 0), (3, 0), (3, 0)] [] H G (e3_q0 Q)) (l2 : Int) (l5 : Int) (H : e3_H) (G : e3_G) (h : wM_byTree_98 Q k6 l2 l5 H G) : e3_Ev (wB L xs) 3 77 287 98 [(2, 40), (3, 0), (0, l2), (3, 0), (3, 0), (0, l5)] [] H G (e3_q0 Q) := by
  unfold wM_byTree_98 at h
  refine e3_K [0] 100 [(2, 40), (3, 0), (0, l2), (3, 0), (3, 0), (0, l5)] [(0, l5)] (H) (G) (wZ L xs) (M := tbM287) rfl rfl trivial ?_
  refine e3_br (M := tbM287) rfl rfl rfl Iff.rfl (fun hc => ?_) (fun hc => ?_)
  · replace h := h.1 hc
    refine e3_K [0, 0] 106 [(2, 40), (3, 0), (0, l2), (3, 0), (3, 0), (0, l5)] [(0, 1), (0, l5)] (H) (G) (wZ L xs) (M := tbM287) rfl rfl trivial ?_
    refine e3_br (M := tbM287) rfl rfl rfl Iff.rfl (fun hc => ?_) (fun hc => ?_)
    · replace h := h.1 hc
      obtain ⟨o1, h⟩ := h
      refine e3_K [0, 4, 0, 2, 0] 120 [(2, 40), (3, 0), (0, l2), (3, 0), (3, 0), (0, l5)] [(0, (H 103 l2))] (H) (G) (wZ L xs) (M := tbM287) rfl rfl ⟨trivial, o1, trivial⟩ ?_
      refine e3_fgt [false, false, false, false, false, false] ?_
      exact sM_byTree_120 L xs Q _ _ _ h
    · replace h := h.2 hc
      refine e3_K [0] 120 [(2, 40), (3, 0), (0, l2), (3, 0), (3, 0), (0, l5)] [(0, (-4))] (H) (G) (wZ L xs) (M := tbM287) rfl rfl trivial ?_
      refine e3_fgt [false, false, false, false, false, false] ?_
      exact sM_byTree_120 L xs Q _ _ _ h
  · replace h := h.2 hc
    obtain ⟨o2, h⟩ := h
    refine e3_K [0, 4, 0, 2, 0, 0] 6 [(2, 40), (3, 0), (0, (H 108 l2)), (3, 0), (3, 0), (0, l5)] [] (H) (G) (wZ L xs) (M := tbM287) rfl rfl ⟨trivial, o2, trivial⟩ ?_
    refine e3_fgt [true, false, true, false, false, false] ?_
    exact hk6 _ _ _ h
set_option maxRecDepth 100000 in
set_option maxHeartbeats 4000000 in
theorem sM_byTree_72 (L : Nat) (xs : Nat → Int32) (Q : Int → e3_H → e3_G → Prop) (k6 : Int → e3_H → e3_G → Prop) (hk6 : ∀ (l2 : Int) (H : e3_H) (G : e3_G), k6 l2 H G → e3_Ev (wB L xs) 3 77 287 6 [(2, 40), (3, 0), (0, l2), (3, 0), (3, 0), (3, 0)] [] H G (e3_q0 Q)) (l2 : Int) (s0 : Int) (H : e3_H) (G : e3_G) (h : wM_byTree_72 Q k6 l2 s0 H G) : e3_Ev (wB L xs) 3 77 287 72 [(2, 40), (3, 0), (0, l2), (3, 0), (3, 0), (3, 0)] [(0, s0)] H G (e3_q0 Q) := by
  unfold wM_byTree_72 at h
  refine e3_K [0, 0, 0] 77 [(2, 40), (3, 0), (0, l2), (3, 0), (3, 0), (0, s0)] [(0, 2), (0, s0)] (H) (G) (wZ L xs) (M := tbM287) rfl rfl trivial ?_
  refine e3_br (M := tbM287) rfl rfl rfl Iff.rfl (fun hc => ?_) (fun hc => ?_)
  · replace h := h.1 hc
    refine e3_K [0, 0, 2] 85 [(2, 40), (3, 0), (0, l2), (3, 0), (3, 0), (0, s0)] [] (e3_up H 40 119 3) (G) (wZ L xs) (M := tbM287) rfl rfl ⟨trivial, trivial⟩ ?_
    generalize hH1 : (e3_up H 40 119 3) = H1
    replace h := h H1 hH1.symm
    obtain ⟨o3, o4, h⟩ := h
    refine e3_K [0, 0, 4, 0, 2, 0, 1, 2] 98 [(2, 40), (3, 0), (0, l2), (3, 0), (3, 0), (0, s0)] [] (e3_up H1 40 125 (e3_rem (H1 103 l2) 16)) (G) (wZ L xs) (M := tbM287) rfl rfl ⟨trivial, o3, o4, trivial, trivial⟩ ?_
    generalize hH2 : (e3_up H1 40 125 (e3_rem (H1 103 l2) 16)) = H2
    replace h := h H2 hH2.symm
    exact sM_byTree_98 L xs Q k6 hk6 _ _ _ _ h
  · replace h := h.2 hc
    exact sM_byTree_98 L xs Q k6 hk6 _ _ _ _ h
set_option maxRecDepth 100000 in
set_option maxHeartbeats 4000000 in
theorem sM_byTree_35 (L : Nat) (xs : Nat → Int32) (Q : Int → e3_H → e3_G → Prop) (k6 : Int → e3_H → e3_G → Prop) (hk6 : ∀ (l2 : Int) (H : e3_H) (G : e3_G), k6 l2 H G → e3_Ev (wB L xs) 3 77 287 6 [(2, 40), (3, 0), (0, l2), (3, 0), (3, 0), (3, 0)] [] H G (e3_q0 Q)) (l2 : Int) (l3 : Int) (H : e3_H) (G : e3_G) (h : wM_byTree_35 Q k6 l2 l3 H G) : e3_Ev (wB L xs) 3 77 287 35 [(2, 40), (3, 0), (0, l2), (0, l3), (3, 0), (3, 0)] [] H G (e3_q0 Q) := by
  unfold wM_byTree_35 at h
  obtain ⟨o1, o2, h⟩ := h
  refine e3_K [0, 0, 4, 0, 2, 0, 4, 0, 2] 48 [(2, 40), (3, 0), (0, l2), (0, l3), (3, 0), (3, 0)] [(0, (H 104 l2)), (0, (H 103 l2)), (2, 40)] (H) (G) (wZ L xs) (M := tbM287) rfl rfl ⟨trivial, o1, trivial, o2, trivial⟩ ?_
  refine e3_call (o := 0) (k := 288) (M2 := tbM288) (f1 := 2) (w1 := 53) (as := [(2, 40), (0, (H 103 l2)), (0, (H 104 l2))]) (rest := []) (M := tbM287) rfl rfl rfl trivial (Nat.le_of_ble_eq_true rfl) (Nat.le_of_ble_eq_true rfl) (Nat.le_of_ble_eq_true rfl) ?_
  refine e3_mono (sM_binds0 L xs _ _ _ _ _ h) (fun r H3 G4 h => ?_)
  obtain ⟨x5, rfl, h⟩ := h
  change e3_Ev _ _ _ _ 51 [(2, 40), (3, 0), (0, l2), (0, l3), (3, 0), (3, 0)] [(0, x5)] H3 G4 _
  refine e3_K [0, 0, 0] 55 [(2, 40), (3, 0), (0, l2), (0, l3), (0, x5), (3, 0)] [(0, 2), (0, l3)] (H3) (G4) (wZ L xs) (M := tbM287) rfl rfl trivial ?_
  refine e3_br (M := tbM287) rfl rfl rfl Iff.rfl (fun hc => ?_) (fun hc => ?_)
  · replace h := h.1 hc
    obtain ⟨o6, h⟩ := h
    refine e3_K [0, 0, 4, 0, 2] 65 [(2, 40), (3, 0), (0, l2), (0, l3), (0, x5), (3, 0)] [(0, (H3 103 l2)), (2, 40)] (H3) (G4) (wZ L xs) (M := tbM287) rfl rfl ⟨trivial, o6, trivial⟩ ?_
    refine e3_call (o := 0) (k := 290) (M2 := tbM290) (f1 := 2) (w1 := 46) (as := [(2, 40), (0, (H3 103 l2))]) (rest := []) (M := tbM287) rfl rfl rfl trivial (Nat.le_of_ble_eq_true rfl) (Nat.le_of_ble_eq_true rfl) (Nat.le_of_ble_eq_true rfl) ?_
    refine e3_mono (sM_guarded L xs _ _ _ _ h) (fun r H7 G8 h => ?_)
    obtain ⟨x9, rfl, h⟩ := h
    change e3_Ev _ _ _ _ 68 [(2, 40), (3, 0), (0, l2), (0, l3), (0, x5), (3, 0)] [(0, x9)] H7 G8 _
    refine e3_K [0] 72 [(2, 40), (3, 0), (0, l2), (0, l3), (0, x5), (3, 0)] [(0, x9)] (H7) (G8) (wZ L xs) (M := tbM287) rfl rfl trivial ?_
    refine e3_fgt [true, false, true, false, false, false] ?_
    exact sM_byTree_72 L xs Q k6 hk6 _ _ _ _ h
  · replace h := h.2 hc
    refine e3_K [0] 72 [(2, 40), (3, 0), (0, l2), (0, l3), (0, x5), (3, 0)] [(0, 1)] (H3) (G4) (wZ L xs) (M := tbM287) rfl rfl trivial ?_
    refine e3_fgt [true, false, true, false, false, false] ?_
    exact sM_byTree_72 L xs Q k6 hk6 _ _ _ _ h
set_option maxRecDepth 100000 in
set_option maxHeartbeats 4000000 in
theorem sM_byTree_187 (L : Nat) (xs : Nat → Int32) (Q : Int → e3_H → e3_G → Prop) (k6 : Int → e3_H → e3_G → Prop) (hk6 : ∀ (l2 : Int) (H : e3_H) (G : e3_G), k6 l2 H G → e3_Ev (wB L xs) 3 77 287 6 [(2, 40), (3, 0), (0, l2), (3, 0), (3, 0), (3, 0)] [] H G (e3_q0 Q)) (l2 : Int) (H : e3_H) (G : e3_G) (h : wM_byTree_187 Q k6 l2 H G) : e3_Ev (wB L xs) 3 77 287 187 [(2, 40), (3, 0), (0, l2), (3, 0), (3, 0), (3, 0)] [] H G (e3_q0 Q) := by
  unfold wM_byTree_187 at h
  refine e3_K [0, 0] 190 [(2, 40), (3, 0), (0, l2), (3, 0), (3, 0), (3, 0)] [(0, (-4)), (0, l2)] (H) (G) (wZ L xs) (M := tbM287) rfl rfl trivial ?_
  refine e3_br (M := tbM287) rfl rfl rfl Iff.rfl (fun hc => ?_) (fun hc => ?_)
  · replace h := h.1 hc
    refine e3_K [0, 0, 2] 198 [(2, 40), (3, 0), (0, l2), (3, 0), (3, 0), (3, 0)] [] (e3_up H 40 119 2) (G) (wZ L xs) (M := tbM287) rfl rfl ⟨trivial, trivial⟩ ?_
    generalize hH1 : (e3_up H 40 119 2) = H1
    replace h := h H1 hH1.symm
    refine e3_K [0] 200 [(2, 40), (3, 0), (0, l2), (3, 0), (3, 0), (3, 0)] [(0, (-4))] (H1) (G) (wZ L xs) (M := tbM287) rfl rfl trivial ?_
    exact e3_reti (M := tbM287) rfl rfl rfl ⟨_, rfl, h⟩
  · replace h := h.2 hc
    refine e3_K [0] 6 [(2, 40), (3, 0), (0, l2), (3, 0), (3, 0), (3, 0)] [] (H) (G) (wZ L xs) (M := tbM287) rfl rfl trivial ?_
    exact hk6 _ _ _ h
set_option maxRecDepth 100000 in
set_option maxHeartbeats 4000000 in
theorem sM_byTree_160 (L : Nat) (xs : Nat → Int32) (Q : Int → e3_H → e3_G → Prop) (k6 : Int → e3_H → e3_G → Prop) (hk6 : ∀ (l2 : Int) (H : e3_H) (G : e3_G), k6 l2 H G → e3_Ev (wB L xs) 3 77 287 6 [(2, 40), (3, 0), (0, l2), (3, 0), (3, 0), (3, 0)] [] H G (e3_q0 Q)) : ∀ (nl : Nat) (l2 : Int) (l3 : Int) (l4 : Int) (H : e3_H) (G : e3_G), wM_byTree_160 Q k6 nl l2 l3 l4 H G → e3_Ev (wB L xs) 3 77 287 160 [(2, 40), (3, 0), (0, l2), (0, l3), (0, l4), (3, 0)] [] H G (e3_q0 Q) := by
  intro nl
  induction nl with
  | zero => intro l2 l3 l4 H G h; exact h.elim
  | succ nn ih =>
    intro l2 l3 l4 H G h
    have h : (((l2 : Int) = (-4) → (wM_byTree_187 Q k6 l2 H G)) ∧ (¬ ((l2 : Int) = (-4)) → (wM_isBranch (fun x3 H1 G2 => (((x3 : Int) = 0 → ((0 : Int) ≤ l2 ∧ (l2 : Int) < 3900) ∧ (wM_byTree_160 Q k6 nn (H1 110 l2) l3 l4 H1 G2)) ∧ (¬ ((x3 : Int) = 0) → (wM_byTree_187 Q k6 l2 H1 G2)))) l2 l3 l4 H G))) := h
    refine e3_K [0, 0] 163 [(2, 40), (3, 0), (0, l2), (0, l3), (0, l4), (3, 0)] [(0, (-4)), (0, l2)] (H) (G) (wZ L xs) (M := tbM287) rfl rfl trivial ?_
    refine e3_br (M := tbM287) rfl rfl rfl Iff.rfl (fun hc => ?_) (fun hc => ?_)
    · replace h := h.1 hc
      refine e3_fgt [true, false, true, false, false, false] ?_
      exact sM_byTree_187 L xs Q k6 hk6 _ _ _ h
    · replace h := h.2 hc
      refine e3_K [0, 0, 0, 0] 171 [(2, 40), (3, 0), (0, l2), (0, l3), (0, l4), (3, 0)] [(0, l4), (0, l3), (0, l2), (2, 40)] (H) (G) (wZ L xs) (M := tbM287) rfl rfl trivial ?_
      refine e3_call (o := 0) (k := 295) (M2 := tbM295) (f1 := 0) (w1 := 0) (as := [(2, 40), (0, l2), (0, l3), (0, l4)]) (rest := []) (M := tbM287) rfl rfl rfl trivial (Nat.le_of_ble_eq_true rfl) (Nat.le_of_ble_eq_true rfl) (Nat.le_of_ble_eq_true rfl) ?_
      refine e3_mono (sM_isBranch L xs _ _ _ _ _ _ h) (fun r H1 G2 h => ?_)
      obtain ⟨x3, rfl, h⟩ := h
      change e3_Ev _ _ _ _ 174 [(2, 40), (3, 0), (0, l2), (0, l3), (0, l4), (3, 0)] [(0, x3)] H1 G2 _
      refine e3_br (M := tbM287) rfl rfl rfl Iff.rfl (fun hc => ?_) (fun hc => ?_)
      · replace h := h.1 hc
        obtain ⟨o4, h⟩ := h
        refine e3_K [0, 4, 0, 2, 0, 0] 160 [(2, 40), (3, 0), (0, (H1 110 l2)), (0, l3), (0, l4), (3, 0)] [] (H1) (G2) (wZ L xs) (M := tbM287) rfl rfl ⟨trivial, o4, trivial⟩ ?_
        exact ih _ _ _ _ _ h
      · replace h := h.2 hc
        refine e3_fgt [true, false, true, false, false, false] ?_
        exact sM_byTree_187 L xs Q k6 hk6 _ _ _ h
set_option maxRecDepth 100000 in
set_option maxHeartbeats 4000000 in
theorem sM_byTree_6 (L : Nat) (xs : Nat → Int32) (Q : Int → e3_H → e3_G → Prop) : ∀ (nl : Nat) (l2 : Int) (H : e3_H) (G : e3_G), wM_byTree_6 Q nl l2 H G → e3_Ev (wB L xs) 3 77 287 6 [(2, 40), (3, 0), (0, l2), (3, 0), (3, 0), (3, 0)] [] H G (e3_q0 Q) := by
  intro nl
  induction nl with
  | zero => intro l2 H G h; exact h.elim
  | succ nn ih =>
    intro l2 H G h
    have h : ((0 : Int) ≤ l2 ∧ (l2 : Int) < 3900) ∧ ((((H 102 l2) : Int) = 0 → ∀ H2 : e3_H, H2 = e3_up H 40 119 1 → Q (-4) H2 G) ∧ (¬ (((H 102 l2) : Int) = 0) → ((((H 102 l2) : Int) = 1 → (wM_byTree_35 Q (fun l2 H G => wM_byTree_6 Q nn l2 H G) l2 (H 102 l2) H G)) ∧ (¬ (((H 102 l2) : Int) = 1) → ((((H 102 l2) : Int) = 2 → (wM_byTree_35 Q (fun l2 H G => wM_byTree_6 Q nn l2 H G) l2 (H 102 l2) H G)) ∧ (¬ (((H 102 l2) : Int) = 2) → ∀ H3 : e3_H, H3 = e3_up H 40 122 (e3_w32 ((H 40 122) + 1)) → ((0 : Int) ≤ l2 ∧ (l2 : Int) < 3900) ∧ (wM_standing (fun x7 H5 G6 => ((0 : Int) ≤ l2 ∧ (l2 : Int) < 3900) ∧ (∃ n, wM_byTree_160 Q (fun l2 H G => wM_byTree_6 Q nn l2 H G) n (H5 108 l2) (H 102 l2) x7 H5 G6)) (H3 105 l2) H3 G))))))) := h
    obtain ⟨o1, h⟩ := h
    refine e3_K [0, 4, 0, 2, 0, 0] 14 [(2, 40), (3, 0), (0, l2), (0, (H 102 l2)), (3, 0), (3, 0)] [(0, (H 102 l2))] (H) (G) (wZ L xs) (M := tbM287) rfl rfl ⟨trivial, o1, trivial⟩ ?_
    refine e3_br (M := tbM287) rfl rfl rfl Iff.rfl (fun hc => ?_) (fun hc => ?_)
    · replace h := h.1 hc
      refine e3_K [0, 0, 2] 22 [(2, 40), (3, 0), (0, l2), (0, (H 102 l2)), (3, 0), (3, 0)] [] (e3_up H 40 119 1) (G) (wZ L xs) (M := tbM287) rfl rfl ⟨trivial, trivial⟩ ?_
      generalize hH2 : (e3_up H 40 119 1) = H2
      replace h := h H2 hH2.symm
      refine e3_K [0] 24 [(2, 40), (3, 0), (0, l2), (0, (H 102 l2)), (3, 0), (3, 0)] [(0, (-4))] (H2) (G) (wZ L xs) (M := tbM287) rfl rfl trivial ?_
      exact e3_reti (M := tbM287) rfl rfl rfl ⟨_, rfl, h⟩
    · replace h := h.2 hc
      refine e3_K [0, 0] 27 [(2, 40), (3, 0), (0, l2), (0, (H 102 l2)), (3, 0), (3, 0)] [(0, 1), (0, (H 102 l2))] (H) (G) (wZ L xs) (M := tbM287) rfl rfl trivial ?_
      refine e3_br (M := tbM287) rfl rfl rfl Iff.rfl (fun hc => ?_) (fun hc => ?_)
      · replace h := h.1 hc
        exact sM_byTree_35 L xs Q (fun l2 H G => wM_byTree_6 Q nn l2 H G) ih _ _ _ _ h
      · replace h := h.2 hc
        refine e3_K [0, 0] 32 [(2, 40), (3, 0), (0, l2), (0, (H 102 l2)), (3, 0), (3, 0)] [(0, 2), (0, (H 102 l2))] (H) (G) (wZ L xs) (M := tbM287) rfl rfl trivial ?_
        refine e3_br (M := tbM287) rfl rfl rfl Iff.rfl (fun hc => ?_) (fun hc => ?_)
        · replace h := h.1 hc
          exact sM_byTree_35 L xs Q (fun l2 H G => wM_byTree_6 Q nn l2 H G) ih _ _ _ _ h
        · replace h := h.2 hc
          refine e3_K [0, 0, 2, 0, 0, 2] 141 [(2, 40), (3, 0), (0, l2), (0, (H 102 l2)), (3, 0), (3, 0)] [] (e3_up H 40 122 (e3_w32 ((H 40 122) + 1))) (G) (wZ L xs) (M := tbM287) rfl rfl ⟨trivial, trivial, trivial⟩ ?_
          generalize hH3 : (e3_up H 40 122 (e3_w32 ((H 40 122) + 1))) = H3
          replace h := h H3 hH3.symm
          obtain ⟨o4, h⟩ := h
          refine e3_K [0, 0, 4, 0, 2] 148 [(2, 40), (3, 0), (0, l2), (0, (H 102 l2)), (3, 0), (3, 0)] [(0, (H3 105 l2)), (2, 40)] (H3) (G) (wZ L xs) (M := tbM287) rfl rfl ⟨trivial, o4, trivial⟩ ?_
          refine e3_call (o := 0) (k := 294) (M2 := tbM294) (f1 := 0) (w1 := 0) (as := [(2, 40), (0, (H3 105 l2))]) (rest := []) (M := tbM287) rfl rfl rfl trivial (Nat.le_of_ble_eq_true rfl) (Nat.le_of_ble_eq_true rfl) (Nat.le_of_ble_eq_true rfl) ?_
          refine e3_mono (sM_standing L xs _ _ _ _ h) (fun r H5 G6 h => ?_)
          obtain ⟨x7, rfl, h⟩ := h
          change e3_Ev _ _ _ _ 151 [(2, 40), (3, 0), (0, l2), (0, (H 102 l2)), (3, 0), (3, 0)] [(0, x7)] H5 G6 _
          obtain ⟨o8, h⟩ := h
          refine e3_K [0, 0, 4, 0, 2, 0] 160 [(2, 40), (3, 0), (0, (H5 108 l2)), (0, (H 102 l2)), (0, x7), (3, 0)] [] (H5) (G6) (wZ L xs) (M := tbM287) rfl rfl ⟨trivial, o8, trivial⟩ ?_
          obtain ⟨nl, h⟩ := h
          exact sM_byTree_160 L xs Q (fun l2 H G => wM_byTree_6 Q nn l2 H G) ih nl _ _ _ _ _ h
set_option maxRecDepth 100000 in
set_option maxHeartbeats 4000000 in
theorem sM_byTree (L : Nat) (xs : Nat → Int32) (Q : Int → e3_H → e3_G → Prop) (l1 : Int) (H : e3_H) (G : e3_G) (h : wM_byTree Q l1 H G) : e3_Ev (wB L xs) 3 77 287 0 [(2, 40), (0, l1), (3, 0), (3, 0), (3, 0), (3, 0)] [] H G (e3_q0 Q) := by
  unfold wM_byTree at h
  refine e3_K [0, 0, 0, 0] 6 [(2, 40), (0, l1), (0, (e3_w32 (300 * l1))), (3, 0), (3, 0), (3, 0)] [] (H) (G) (wZ L xs) (M := tbM287) rfl rfl trivial ?_
  refine e3_fgt [true, false, true, false, false, false] ?_
  obtain ⟨nl, h⟩ := h
  exact sM_byTree_6 L xs Q nl _ _ _ h
/-- LetterPostModel.byRules(I)I -/
def wM_byRules_110 (Q : Int → e3_H → e3_G → Prop) (k5 : Int → Int → e3_H → e3_G → Prop) (l1 : Int) (l2 : Int) (H : e3_H) (G : e3_G) : Prop :=
  (k5 l1 (e3_w32 (l2 + 1)) H G)
def wM_byRules_78 (Q : Int → e3_H → e3_G → Prop) (k5 : Int → Int → e3_H → e3_G → Prop) (l1 : Int) (l2 : Int) (s0 : Int) (H : e3_H) (G : e3_G) : Prop :=
  (((s0 : Int) = 2 → ∀ H1 : e3_H, H1 = e3_up H 40 119 3 → ((16 : Int) ≠ 0) ∧ ∀ H2 : e3_H, H2 = e3_up H1 40 125 (e3_rem l2 16) → Q (-4) H2 G) ∧ (¬ ((s0 : Int) = 2) → (((s0 : Int) = 1 → Q l2 H G) ∧ (¬ ((s0 : Int) = 1) → (wM_byRules_110 Q k5 l1 l2 H G)))))
def wM_byRules_47 (Q : Int → e3_H → e3_G → Prop) (k5 : Int → Int → e3_H → e3_G → Prop) (l1 : Int) (l2 : Int) (l3 : Int) (H : e3_H) (G : e3_G) : Prop :=
  ((0 : Int) ≤ l2 ∧ (l2 : Int) < 192) ∧ (((l3 : Int) = (H 74 l2) → (wM_byRules_110 Q k5 l1 l2 H G)) ∧ (¬ ((l3 : Int) = (H 74 l2)) → ((0 : Int) ≤ l2 ∧ (l2 : Int) < 192) ∧ ((((H 78 l2) : Int) = 0 → (wM_byRules_78 Q k5 l1 l2 1 H G)) ∧ (¬ (((H 78 l2) : Int) = 0) → (wM_guarded (fun x5 H3 G4 => (wM_byRules_78 Q k5 l1 l2 x5 H3 G4)) l2 H G)))))
def wM_byRules_22 (Q : Int → e3_H → e3_G → Prop) (k5 : Int → Int → e3_H → e3_G → Prop) : Nat → Int → Int → Int → e3_H → e3_G → Prop
  | 0, _, _, _, _, _ => False
  | nn + 1, l1, l2, l3, H, G => ((0 : Int) ≤ l2 ∧ (l2 : Int) < 192) ∧ (((l3 : Int) < (H 74 l2) → (wM_binds0 (fun x4 H2 G3 => (((x4 : Int) = 0 → (wM_byRules_22 Q k5 nn l1 l2 (e3_w32 (l3 + 1)) H2 G3)) ∧ (¬ ((x4 : Int) = 0) → (wM_byRules_47 Q k5 l1 l2 l3 H2 G3)))) l2 l3 H G)) ∧ (¬ ((l3 : Int) < (H 74 l2)) → (wM_byRules_47 Q k5 l1 l2 l3 H G)))
def wM_byRules_5 (Q : Int → e3_H → e3_G → Prop) : Nat → Int → Int → e3_H → e3_G → Prop
  | 0, _, _, _, _ => False
  | nn + 1, l1, l2, H, G => ((0 : Int) ≤ l1 ∧ (l1 : Int) < 12) ∧ (((l2 : Int) < (e3_w32 ((e3_w32 (16 * l1)) + (H 70 l1))) → (∃ n, wM_byRules_22 Q (fun l1 l2 H G => wM_byRules_5 Q nn l1 l2 H G) n l1 l2 0 H G)) ∧ (¬ ((l2 : Int) < (e3_w32 ((e3_w32 (16 * l1)) + (H 70 l1)))) → ∀ H2 : e3_H, H2 = e3_up H 40 119 1 → Q (-4) H2 G))
def wM_byRules (Q : Int → e3_H → e3_G → Prop) (l1 : Int) (H : e3_H) (G : e3_G) : Prop :=
  (∃ n, wM_byRules_5 Q n l1 (e3_w32 (16 * l1)) H G)
set_option maxRecDepth 100000 in
set_option maxHeartbeats 4000000 in
theorem sM_byRules_110 (L : Nat) (xs : Nat → Int32) (Q : Int → e3_H → e3_G → Prop) (k5 : Int → Int → e3_H → e3_G → Prop) (hk5 : ∀ (l1 : Int) (l2 : Int) (H : e3_H) (G : e3_G), k5 l1 l2 H G → e3_Ev (wB L xs) 3 77 296 5 [(2, 40), (0, l1), (0, l2), (3, 0), (3, 0)] [] H G (e3_q0 Q)) (l1 : Int) (l2 : Int) (H : e3_H) (G : e3_G) (h : wM_byRules_110 Q k5 l1 l2 H G) : e3_Ev (wB L xs) 3 77 296 110 [(2, 40), (0, l1), (0, l2), (3, 0), (3, 0)] [] H G (e3_q0 Q) := by
  unfold wM_byRules_110 at h
  refine e3_K [0, 0] 5 [(2, 40), (0, l1), (0, (e3_w32 (l2 + 1))), (3, 0), (3, 0)] [] (H) (G) (wZ L xs) (M := tbM296) rfl rfl trivial ?_
  exact hk5 _ _ _ _ h
set_option maxRecDepth 100000 in
set_option maxHeartbeats 4000000 in
theorem sM_byRules_78 (L : Nat) (xs : Nat → Int32) (Q : Int → e3_H → e3_G → Prop) (k5 : Int → Int → e3_H → e3_G → Prop) (hk5 : ∀ (l1 : Int) (l2 : Int) (H : e3_H) (G : e3_G), k5 l1 l2 H G → e3_Ev (wB L xs) 3 77 296 5 [(2, 40), (0, l1), (0, l2), (3, 0), (3, 0)] [] H G (e3_q0 Q)) (l1 : Int) (l2 : Int) (s0 : Int) (H : e3_H) (G : e3_G) (h : wM_byRules_78 Q k5 l1 l2 s0 H G) : e3_Ev (wB L xs) 3 77 296 78 [(2, 40), (0, l1), (0, l2), (3, 0), (3, 0)] [(0, s0)] H G (e3_q0 Q) := by
  unfold wM_byRules_78 at h
  refine e3_K [0, 0, 0] 83 [(2, 40), (0, l1), (0, l2), (3, 0), (0, s0)] [(0, 2), (0, s0)] (H) (G) (wZ L xs) (M := tbM296) rfl rfl trivial ?_
  refine e3_br (M := tbM296) rfl rfl rfl Iff.rfl (fun hc => ?_) (fun hc => ?_)
  · replace h := h.1 hc
    refine e3_K [0, 0, 2] 91 [(2, 40), (0, l1), (0, l2), (3, 0), (0, s0)] [] (e3_up H 40 119 3) (G) (wZ L xs) (M := tbM296) rfl rfl ⟨trivial, trivial⟩ ?_
    generalize hH1 : (e3_up H 40 119 3) = H1
    replace h := h H1 hH1.symm
    obtain ⟨o3, h⟩ := h
    refine e3_K [0, 0, 0, 1, 2] 99 [(2, 40), (0, l1), (0, l2), (3, 0), (0, s0)] [] (e3_up H1 40 125 (e3_rem l2 16)) (G) (wZ L xs) (M := tbM296) rfl rfl ⟨o3, trivial, trivial⟩ ?_
    generalize hH2 : (e3_up H1 40 125 (e3_rem l2 16)) = H2
    replace h := h H2 hH2.symm
    refine e3_K [0] 101 [(2, 40), (0, l1), (0, l2), (3, 0), (0, s0)] [(0, (-4))] (H2) (G) (wZ L xs) (M := tbM296) rfl rfl trivial ?_
    exact e3_reti (M := tbM296) rfl rfl rfl ⟨_, rfl, h⟩
  · replace h := h.2 hc
    refine e3_K [0, 0] 105 [(2, 40), (0, l1), (0, l2), (3, 0), (0, s0)] [(0, 1), (0, s0)] (H) (G) (wZ L xs) (M := tbM296) rfl rfl trivial ?_
    refine e3_br (M := tbM296) rfl rfl rfl Iff.rfl (fun hc => ?_) (fun hc => ?_)
    · replace h := h.1 hc
      refine e3_K [0] 109 [(2, 40), (0, l1), (0, l2), (3, 0), (0, s0)] [(0, l2)] (H) (G) (wZ L xs) (M := tbM296) rfl rfl trivial ?_
      exact e3_reti (M := tbM296) rfl rfl rfl ⟨_, rfl, h⟩
    · replace h := h.2 hc
      refine e3_fgt [true, true, true, false, false] ?_
      exact sM_byRules_110 L xs Q k5 hk5 _ _ _ _ h
set_option maxRecDepth 100000 in
set_option maxHeartbeats 4000000 in
theorem sM_byRules_47 (L : Nat) (xs : Nat → Int32) (Q : Int → e3_H → e3_G → Prop) (k5 : Int → Int → e3_H → e3_G → Prop) (hk5 : ∀ (l1 : Int) (l2 : Int) (H : e3_H) (G : e3_G), k5 l1 l2 H G → e3_Ev (wB L xs) 3 77 296 5 [(2, 40), (0, l1), (0, l2), (3, 0), (3, 0)] [] H G (e3_q0 Q)) (l1 : Int) (l2 : Int) (l3 : Int) (H : e3_H) (G : e3_G) (h : wM_byRules_47 Q k5 l1 l2 l3 H G) : e3_Ev (wB L xs) 3 77 296 47 [(2, 40), (0, l1), (0, l2), (0, l3), (3, 0)] [] H G (e3_q0 Q) := by
  unfold wM_byRules_47 at h
  obtain ⟨o1, h⟩ := h
  refine e3_K [0, 0, 4, 0, 2] 54 [(2, 40), (0, l1), (0, l2), (0, l3), (3, 0)] [(0, (H 74 l2)), (0, l3)] (H) (G) (wZ L xs) (M := tbM296) rfl rfl ⟨trivial, o1, trivial⟩ ?_
  refine e3_br (M := tbM296) rfl rfl rfl Iff.rfl (fun hc => ?_) (fun hc => ?_)
  · replace h := h.1 hc
    refine e3_K [0] 110 [(2, 40), (0, l1), (0, l2), (0, l3), (3, 0)] [] (H) (G) (wZ L xs) (M := tbM296) rfl rfl trivial ?_
    refine e3_fgt [true, true, true, false, false] ?_
    exact sM_byRules_110 L xs Q k5 hk5 _ _ _ _ h
  · replace h := h.2 hc
    obtain ⟨o2, h⟩ := h
    refine e3_K [0, 4, 0, 2] 66 [(2, 40), (0, l1), (0, l2), (0, l3), (3, 0)] [(0, (H 78 l2))] (H) (G) (wZ L xs) (M := tbM296) rfl rfl ⟨trivial, o2, trivial⟩ ?_
    refine e3_br (M := tbM296) rfl rfl rfl Iff.rfl (fun hc => ?_) (fun hc => ?_)
    · replace h := h.1 hc
      refine e3_K [0] 78 [(2, 40), (0, l1), (0, l2), (0, l3), (3, 0)] [(0, 1)] (H) (G) (wZ L xs) (M := tbM296) rfl rfl trivial ?_
      refine e3_fgt [true, true, true, false, false] ?_
      exact sM_byRules_78 L xs Q k5 hk5 _ _ _ _ _ h
    · replace h := h.2 hc
      refine e3_K [0, 0] 71 [(2, 40), (0, l1), (0, l2), (0, l3), (3, 0)] [(0, l2), (2, 40)] (H) (G) (wZ L xs) (M := tbM296) rfl rfl trivial ?_
      refine e3_call (o := 0) (k := 290) (M2 := tbM290) (f1 := 2) (w1 := 46) (as := [(2, 40), (0, l2)]) (rest := []) (M := tbM296) rfl rfl rfl trivial (Nat.le_of_ble_eq_true rfl) (Nat.le_of_ble_eq_true rfl) (Nat.le_of_ble_eq_true rfl) ?_
      refine e3_mono (sM_guarded L xs _ _ _ _ h) (fun r H3 G4 h => ?_)
      obtain ⟨x5, rfl, h⟩ := h
      change e3_Ev _ _ _ _ 74 [(2, 40), (0, l1), (0, l2), (0, l3), (3, 0)] [(0, x5)] H3 G4 _
      refine e3_K [0] 78 [(2, 40), (0, l1), (0, l2), (0, l3), (3, 0)] [(0, x5)] (H3) (G4) (wZ L xs) (M := tbM296) rfl rfl trivial ?_
      refine e3_fgt [true, true, true, false, false] ?_
      exact sM_byRules_78 L xs Q k5 hk5 _ _ _ _ _ h
set_option maxRecDepth 100000 in
set_option maxHeartbeats 4000000 in
theorem sM_byRules_22 (L : Nat) (xs : Nat → Int32) (Q : Int → e3_H → e3_G → Prop) (k5 : Int → Int → e3_H → e3_G → Prop) (hk5 : ∀ (l1 : Int) (l2 : Int) (H : e3_H) (G : e3_G), k5 l1 l2 H G → e3_Ev (wB L xs) 3 77 296 5 [(2, 40), (0, l1), (0, l2), (3, 0), (3, 0)] [] H G (e3_q0 Q)) : ∀ (nl : Nat) (l1 : Int) (l2 : Int) (l3 : Int) (H : e3_H) (G : e3_G), wM_byRules_22 Q k5 nl l1 l2 l3 H G → e3_Ev (wB L xs) 3 77 296 22 [(2, 40), (0, l1), (0, l2), (0, l3), (3, 0)] [] H G (e3_q0 Q) := by
  intro nl
  induction nl with
  | zero => intro l1 l2 l3 H G h; exact h.elim
  | succ nn ih =>
    intro l1 l2 l3 H G h
    have h : ((0 : Int) ≤ l2 ∧ (l2 : Int) < 192) ∧ (((l3 : Int) < (H 74 l2) → (wM_binds0 (fun x4 H2 G3 => (((x4 : Int) = 0 → (wM_byRules_22 Q k5 nn l1 l2 (e3_w32 (l3 + 1)) H2 G3)) ∧ (¬ ((x4 : Int) = 0) → (wM_byRules_47 Q k5 l1 l2 l3 H2 G3)))) l2 l3 H G)) ∧ (¬ ((l3 : Int) < (H 74 l2)) → (wM_byRules_47 Q k5 l1 l2 l3 H G))) := h
    obtain ⟨o1, h⟩ := h
    refine e3_K [0, 0, 4, 0, 2] 29 [(2, 40), (0, l1), (0, l2), (0, l3), (3, 0)] [(0, (H 74 l2)), (0, l3)] (H) (G) (wZ L xs) (M := tbM296) rfl rfl ⟨trivial, o1, trivial⟩ ?_
    refine e3_br (M := tbM296) rfl rfl rfl Iff.rfl (fun hc => ?_) (fun hc => ?_)
    · replace h := h.1 hc
      refine e3_K [0, 0, 0] 35 [(2, 40), (0, l1), (0, l2), (0, l3), (3, 0)] [(0, l3), (0, l2), (2, 40)] (H) (G) (wZ L xs) (M := tbM296) rfl rfl trivial ?_
      refine e3_call (o := 0) (k := 288) (M2 := tbM288) (f1 := 2) (w1 := 53) (as := [(2, 40), (0, l2), (0, l3)]) (rest := []) (M := tbM296) rfl rfl rfl trivial (Nat.le_of_ble_eq_true rfl) (Nat.le_of_ble_eq_true rfl) (Nat.le_of_ble_eq_true rfl) ?_
      refine e3_mono (sM_binds0 L xs _ _ _ _ _ h) (fun r H2 G3 h => ?_)
      obtain ⟨x4, rfl, h⟩ := h
      change e3_Ev _ _ _ _ 38 [(2, 40), (0, l1), (0, l2), (0, l3), (3, 0)] [(0, x4)] H2 G3 _
      refine e3_br (M := tbM296) rfl rfl rfl Iff.rfl (fun hc => ?_) (fun hc => ?_)
      · replace h := h.1 hc
        refine e3_K [0, 0] 22 [(2, 40), (0, l1), (0, l2), (0, (e3_w32 (l3 + 1))), (3, 0)] [] (H2) (G3) (wZ L xs) (M := tbM296) rfl rfl trivial ?_
        exact ih _ _ _ _ _ h
      · replace h := h.2 hc
        exact sM_byRules_47 L xs Q k5 hk5 _ _ _ _ _ h
    · replace h := h.2 hc
      exact sM_byRules_47 L xs Q k5 hk5 _ _ _ _ _ h
set_option maxRecDepth 100000 in
set_option maxHeartbeats 4000000 in
theorem sM_byRules_5 (L : Nat) (xs : Nat → Int32) (Q : Int → e3_H → e3_G → Prop) : ∀ (nl : Nat) (l1 : Int) (l2 : Int) (H : e3_H) (G : e3_G), wM_byRules_5 Q nl l1 l2 H G → e3_Ev (wB L xs) 3 77 296 5 [(2, 40), (0, l1), (0, l2), (3, 0), (3, 0)] [] H G (e3_q0 Q) := by
  intro nl
  induction nl with
  | zero => intro l1 l2 H G h; exact h.elim
  | succ nn ih =>
    intro l1 l2 H G h
    have h : ((0 : Int) ≤ l1 ∧ (l1 : Int) < 12) ∧ (((l2 : Int) < (e3_w32 ((e3_w32 (16 * l1)) + (H 70 l1))) → (∃ n, wM_byRules_22 Q (fun l1 l2 H G => wM_byRules_5 Q nn l1 l2 H G) n l1 l2 0 H G)) ∧ (¬ ((l2 : Int) < (e3_w32 ((e3_w32 (16 * l1)) + (H 70 l1)))) → ∀ H2 : e3_H, H2 = e3_up H 40 119 1 → Q (-4) H2 G)) := h
    obtain ⟨o1, h⟩ := h
    refine e3_K [0, 0, 0, 0, 0, 4, 0, 2, 0] 17 [(2, 40), (0, l1), (0, l2), (3, 0), (3, 0)] [(0, (e3_w32 ((e3_w32 (16 * l1)) + (H 70 l1)))), (0, l2)] (H) (G) (wZ L xs) (M := tbM296) rfl rfl ⟨trivial, o1, trivial⟩ ?_
    refine e3_br (M := tbM296) rfl rfl rfl Iff.rfl (fun hc => ?_) (fun hc => ?_)
    · replace h := h.1 hc
      refine e3_K [0, 0] 22 [(2, 40), (0, l1), (0, l2), (0, 0), (3, 0)] [] (H) (G) (wZ L xs) (M := tbM296) rfl rfl trivial ?_
      obtain ⟨nl, h⟩ := h
      exact sM_byRules_22 L xs Q (fun l1 l2 H G => wM_byRules_5 Q nn l1 l2 H G) ih nl _ _ _ _ _ h
    · replace h := h.2 hc
      refine e3_K [0, 0, 2] 121 [(2, 40), (0, l1), (0, l2), (3, 0), (3, 0)] [] (e3_up H 40 119 1) (G) (wZ L xs) (M := tbM296) rfl rfl ⟨trivial, trivial⟩ ?_
      generalize hH2 : (e3_up H 40 119 1) = H2
      replace h := h H2 hH2.symm
      refine e3_K [0] 123 [(2, 40), (0, l1), (0, l2), (3, 0), (3, 0)] [(0, (-4))] (H2) (G) (wZ L xs) (M := tbM296) rfl rfl trivial ?_
      exact e3_reti (M := tbM296) rfl rfl rfl ⟨_, rfl, h⟩
set_option maxRecDepth 100000 in
set_option maxHeartbeats 4000000 in
theorem sM_byRules (L : Nat) (xs : Nat → Int32) (Q : Int → e3_H → e3_G → Prop) (l1 : Int) (H : e3_H) (G : e3_G) (h : wM_byRules Q l1 H G) : e3_Ev (wB L xs) 3 77 296 0 [(2, 40), (0, l1), (3, 0), (3, 0), (3, 0)] [] H G (e3_q0 Q) := by
  unfold wM_byRules at h
  refine e3_K [0, 0, 0, 0] 5 [(2, 40), (0, l1), (0, (e3_w32 (16 * l1))), (3, 0), (3, 0)] [] (H) (G) (wZ L xs) (M := tbM296) rfl rfl trivial ?_
  obtain ⟨nl, h⟩ := h
  exact sM_byRules_5 L xs Q nl _ _ _ _ h
/-- LetterPostModel.runs(IIIIZ)I -/
def wM_runs_408 (Q : Int → e3_H → e3_G → Prop) (k152 : Int → Int → Int → Int → e3_H → e3_G → Prop) (l5 : Int) (l6 : Int) (l7 : Int) (l8 : Int) (H : e3_H) (G : e3_G) : Prop :=
  (k152 l5 l6 l7 l8 H G)
def wM_runs_354 (Q : Int → e3_H → e3_G → Prop) (k152 : Int → Int → Int → Int → e3_H → e3_G → Prop) : Nat → Int → Int → Int → Int → e3_H → e3_G → Prop
  | 0, _, _, _, _, _, _ => False
  | nn + 1, l5, l6, l9, l10, H, G => ((0 : Int) ≤ l9 ∧ (l9 : Int) < 192) ∧ (((l10 : Int) < (H 83 l9) → ((0 : Int) ≤ (e3_w32 ((e3_w32 (3 * l9)) + l10)) ∧ ((e3_w32 ((e3_w32 (3 * l9)) + l10)) : Int) < 576) ∧ ((0 : Int) ≤ (H 84 (e3_w32 ((e3_w32 (3 * l9)) + l10))) ∧ ((H 84 (e3_w32 ((e3_w32 (3 * l9)) + l10))) : Int) < 8) ∧ ((0 : Int) ≤ l10 ∧ (l10 : Int) < 3) ∧ ∀ H2 : e3_H, H2 = e3_up H 135 l10 (H 136 (H 84 (e3_w32 ((e3_w32 (3 * l9)) + l10)))) → (wM_runs_354 Q k152 nn l5 l6 l9 (e3_w32 (l10 + 1)) H2 G)) ∧ (¬ ((l10 : Int) < (H 83 l9)) → ((0 : Int) ≤ l9 ∧ (l9 : Int) < 192) ∧ (wM_runs_408 Q k152 l5 l6 (H 80 l9) 1 H G)))
def wM_runs_328 (Q : Int → e3_H → e3_G → Prop) (k152 : Int → Int → Int → Int → e3_H → e3_G → Prop) (l5 : Int) (l6 : Int) (l7 : Int) (l8 : Int) (s0 : Int) (H : e3_H) (G : e3_G) : Prop :=
  ∀ H1 : e3_H, H1 = e3_up H 40 120 s0 → (wM_runs_408 Q k152 l5 l6 l7 l8 H1 G)
def wM_runs_270 (Q : Int → e3_H → e3_G → Prop) (k152 : Int → Int → Int → Int → e3_H → e3_G → Prop) (l5 : Int) (l6 : Int) (l7 : Int) (l8 : Int) (l9 : Int) (H : e3_H) (G : e3_G) : Prop :=
  ((0 : Int) ≤ l9 ∧ (l9 : Int) < 192) ∧ ((((H 79 l9) : Int) < 2 → ((16 : Int) ≠ 0) ∧ ∀ H2 : e3_H, H2 = e3_up H 40 125 (e3_rem l9 16) → ((0 : Int) ≤ l9 ∧ (l9 : Int) < 192) ∧ ((((H2 79 l9) : Int) = 0 → ((0 : Int) ≤ l9 ∧ (l9 : Int) < 192) ∧ (wM_runs_328 Q k152 l5 l6 l7 l8 (H2 80 l9) H2 G)) ∧ (¬ (((H2 79 l9) : Int) = 0) → ((0 : Int) ≤ l9 ∧ (l9 : Int) < 192) ∧ ((0 : Int) ≤ (H2 80 l9) ∧ ((H2 80 l9) : Int) < 8) ∧ ((0 : Int) ≤ (H2 136 (H2 80 l9)) ∧ ((H2 136 (H2 80 l9)) : Int) < 160) ∧ (wM_runs_328 Q k152 l5 l6 l7 l8 (H2 129 (H2 136 (H2 80 l9))) H2 G)))) ∧ (¬ (((H 79 l9) : Int) < 2) → ((((H 40 121) : Int) = 100 → ∀ H9 : e3_H, H9 = e3_up H 40 119 4 → (wM_runs_408 Q k152 l5 l6 l7 l8 H9 G)) ∧ (¬ (((H 40 121) : Int) = 100) → (∃ n, wM_runs_354 Q k152 n l5 l6 l9 0 H G)))))
def wM_runs_243 (Q : Int → e3_H → e3_G → Prop) (k152 : Int → Int → Int → Int → e3_H → e3_G → Prop) : Nat → Int → Int → Int → Int → Int → Int → e3_H → e3_G → Prop
  | 0, _, _, _, _, _, _, _, _ => False
  | nn + 1, l5, l6, l7, l8, l9, l10, H, G => (((l10 : Int) < 8 → ((0 : Int) ≤ l10 ∧ (l10 : Int) < 8) ∧ ((0 : Int) ≤ l10 ∧ (l10 : Int) < 8) ∧ ∀ H1 : e3_H, H1 = e3_up H 138 l10 (H 136 l10) → (wM_runs_243 Q k152 nn l5 l6 l7 l8 l9 (e3_w32 (l10 + 1)) H1 G)) ∧ (¬ ((l10 : Int) < 8) → (wM_runs_270 Q k152 l5 l6 l7 l8 l9 H G)))
def wM_runs_199 (Q : Int → e3_H → e3_G → Prop) (k152 : Int → Int → Int → Int → e3_H → e3_G → Prop) (l5 : Int) (l6 : Int) (l7 : Int) (s0 : Int) (H : e3_H) (G : e3_G) : Prop :=
  (((s0 : Int) = (-4) → (k152 l5 l6 l7 0 H G)) ∧ (¬ ((s0 : Int) = (-4)) → ((((H 40 121) : Int) = 1 → ((16 : Int) ≠ 0) ∧ ((0 : Int) ≤ s0 ∧ (s0 : Int) < 192) ∧ ∀ H1 : e3_H, H1 = e3_up H 40 128 (H 56 s0) → (∃ n, wM_runs_243 Q k152 n l5 (e3_rem s0 16) l7 0 s0 0 H1 G)) ∧ (¬ (((H 40 121) : Int) = 1) → (wM_runs_270 Q k152 l5 l6 l7 0 s0 H G)))))
def wM_runs_152 (Q : Int → e3_H → e3_G → Prop) : Nat → Int → Int → Int → Int → e3_H → e3_G → Prop
  | 0, _, _, _, _, _, _ => False
  | nn + 1, l5, l6, l7, l8, H, G => (((l8 : Int) = 0 → ∀ H1 : e3_H, H1 = e3_up H 40 126 1 → Q l6 H1 G) ∧ (¬ ((l8 : Int) = 0) → ∀ H2 : e3_H, H2 = e3_up H 40 121 (e3_w32 ((H 40 121) + 1)) → ∀ H3 : e3_H, H3 = e3_up H2 40 124 l7 → ∀ H4 : e3_H, H4 = e3_up H3 40 125 (-4) → (((l5 : Int) = 0 → (wM_byRules (fun x7 H5 G6 => (wM_runs_199 Q (fun l5 l6 l7 l8 H G => wM_runs_152 Q nn l5 l6 l7 l8 H G) l5 l6 l7 x7 H5 G6)) l7 H4 G)) ∧ (¬ ((l5 : Int) = 0) → (wM_byTree (fun x10 H8 G9 => (wM_runs_199 Q (fun l5 l6 l7 l8 H G => wM_runs_152 Q nn l5 l6 l7 l8 H G) l5 l6 l7 x10 H8 G9)) l7 H4 G)))))
def wM_runs_76 (Q : Int → e3_H → e3_G → Prop)  (H : e3_H) (G : e3_G) : Prop :=
  Q (-1) H G
def wM_runs_45 (Q : Int → e3_H → e3_G → Prop) (k13 : Int → Int → Int → Int → Int → Int → e3_H → e3_G → Prop) (l1 : Int) (l2 : Int) (l3 : Int) (l4 : Int) (l5 : Int) (l6 : Int) (s0 : Int) (H : e3_H) (G : e3_G) : Prop :=
  (wM_isValue (fun x3 H1 G2 => (((x3 : Int) = 0 → (wM_runs_76 Q H1 G2)) ∧ (¬ ((x3 : Int) = 0) → ((0 : Int) ≤ (e3_w32 ((e3_w32 (3 * l1)) + l6)) ∧ ((e3_w32 ((e3_w32 (3 * l1)) + l6)) : Int) < 36) ∧ (wM_isOfSort (fun x7 H5 G6 => (((x7 : Int) = 0 → (wM_runs_76 Q H5 G6)) ∧ (¬ ((x7 : Int) = 0) → (k13 l1 l2 l3 l4 l5 (e3_w32 (l6 + 1)) H5 G6)))) s0 (H1 69 (e3_w32 ((e3_w32 (3 * l1)) + l6))) H1 G2)))) s0 H G)
def wM_runs_13 (Q : Int → e3_H → e3_G → Prop) : Nat → Int → Int → Int → Int → Int → Int → e3_H → e3_G → Prop
  | 0, _, _, _, _, _, _, _, _ => False
  | nn + 1, l1, l2, l3, l4, l5, l6, H, G => ((0 : Int) ≤ l1 ∧ (l1 : Int) < 12) ∧ (((l6 : Int) < (H 68 l1) → (((l6 : Int) = 0 → (wM_runs_45 Q (fun l1 l2 l3 l4 l5 l6 H G => wM_runs_13 Q nn l1 l2 l3 l4 l5 l6 H G) l1 l2 l3 l4 l5 l6 l2 H G)) ∧ (¬ ((l6 : Int) = 0) → (((l6 : Int) = 1 → (wM_runs_45 Q (fun l1 l2 l3 l4 l5 l6 H G => wM_runs_13 Q nn l1 l2 l3 l4 l5 l6 H G) l1 l2 l3 l4 l5 l6 l3 H G)) ∧ (¬ ((l6 : Int) = 1) → (wM_runs_45 Q (fun l1 l2 l3 l4 l5 l6 H G => wM_runs_13 Q nn l1 l2 l3 l4 l5 l6 H G) l1 l2 l3 l4 l5 l6 l4 H G)))))) ∧ (¬ ((l6 : Int) < (H 68 l1)) → ∀ H2 : e3_H, H2 = e3_up H 135 0 l2 → ∀ H3 : e3_H, H3 = e3_up H2 135 1 l3 → ∀ H4 : e3_H, H4 = e3_up H3 135 2 l4 → ∀ H5 : e3_H, H5 = e3_up H4 40 119 0 → ∀ H6 : e3_H, H6 = e3_up H5 40 120 0 → ∀ H7 : e3_H, H7 = e3_up H6 40 121 0 → ∀ H8 : e3_H, H8 = e3_up H7 40 122 0 → ∀ H9 : e3_H, H9 = e3_up H8 40 123 0 → ∀ H10 : e3_H, H10 = e3_up H9 40 128 0 → ∀ H11 : e3_H, H11 = e3_up H10 40 125 (-4) → (∃ n, wM_runs_152 Q n l5 (-4) l1 1 H11 G)))
def wM_runs (Q : Int → e3_H → e3_G → Prop) (l1 : Int) (l2 : Int) (l3 : Int) (l4 : Int) (l5 : Int) (H : e3_H) (G : e3_G) : Prop :=
  (wM_isFunction (fun x3 H1 G2 => (((x3 : Int) = 0 → Q (-1) H1 G2) ∧ (¬ ((x3 : Int) = 0) → (∃ n, wM_runs_13 Q n l1 l2 l3 l4 l5 0 H1 G2)))) l1 H G)
set_option maxRecDepth 100000 in
set_option maxHeartbeats 4000000 in
theorem sM_runs_408 (L : Nat) (xs : Nat → Int32) (Q : Int → e3_H → e3_G → Prop) (k152 : Int → Int → Int → Int → e3_H → e3_G → Prop) (hk152 : ∀ (l5 : Int) (l6 : Int) (l7 : Int) (l8 : Int) (H : e3_H) (G : e3_G), k152 l5 l6 l7 l8 H G → e3_Ev (wB L xs) 4 102 286 152 [(2, 40), (3, 0), (3, 0), (3, 0), (3, 0), (0, l5), (0, l6), (0, l7), (0, l8), (3, 0), (3, 0)] [] H G (e3_q0 Q)) (l5 : Int) (l6 : Int) (l7 : Int) (l8 : Int) (H : e3_H) (G : e3_G) (h : wM_runs_408 Q k152 l5 l6 l7 l8 H G) : e3_Ev (wB L xs) 4 102 286 408 [(2, 40), (3, 0), (3, 0), (3, 0), (3, 0), (0, l5), (0, l6), (0, l7), (0, l8), (3, 0), (3, 0)] [] H G (e3_q0 Q) := by
  unfold wM_runs_408 at h
  refine e3_K [0] 152 [(2, 40), (3, 0), (3, 0), (3, 0), (3, 0), (0, l5), (0, l6), (0, l7), (0, l8), (3, 0), (3, 0)] [] (H) (G) (wZ L xs) (M := tbM286) rfl rfl trivial ?_
  exact hk152 _ _ _ _ _ _ h
set_option maxRecDepth 100000 in
set_option maxHeartbeats 4000000 in
theorem sM_runs_354 (L : Nat) (xs : Nat → Int32) (Q : Int → e3_H → e3_G → Prop) (k152 : Int → Int → Int → Int → e3_H → e3_G → Prop) (hk152 : ∀ (l5 : Int) (l6 : Int) (l7 : Int) (l8 : Int) (H : e3_H) (G : e3_G), k152 l5 l6 l7 l8 H G → e3_Ev (wB L xs) 4 102 286 152 [(2, 40), (3, 0), (3, 0), (3, 0), (3, 0), (0, l5), (0, l6), (0, l7), (0, l8), (3, 0), (3, 0)] [] H G (e3_q0 Q)) : ∀ (nl : Nat) (l5 : Int) (l6 : Int) (l9 : Int) (l10 : Int) (H : e3_H) (G : e3_G), wM_runs_354 Q k152 nl l5 l6 l9 l10 H G → e3_Ev (wB L xs) 4 102 286 354 [(2, 40), (3, 0), (3, 0), (3, 0), (3, 0), (0, l5), (0, l6), (3, 0), (3, 0), (0, l9), (0, l10)] [] H G (e3_q0 Q) := by
  intro nl
  induction nl with
  | zero => intro l5 l6 l9 l10 H G h; exact h.elim
  | succ nn ih =>
    intro l5 l6 l9 l10 H G h
    have h : ((0 : Int) ≤ l9 ∧ (l9 : Int) < 192) ∧ (((l10 : Int) < (H 83 l9) → ((0 : Int) ≤ (e3_w32 ((e3_w32 (3 * l9)) + l10)) ∧ ((e3_w32 ((e3_w32 (3 * l9)) + l10)) : Int) < 576) ∧ ((0 : Int) ≤ (H 84 (e3_w32 ((e3_w32 (3 * l9)) + l10))) ∧ ((H 84 (e3_w32 ((e3_w32 (3 * l9)) + l10))) : Int) < 8) ∧ ((0 : Int) ≤ l10 ∧ (l10 : Int) < 3) ∧ ∀ H2 : e3_H, H2 = e3_up H 135 l10 (H 136 (H 84 (e3_w32 ((e3_w32 (3 * l9)) + l10)))) → (wM_runs_354 Q k152 nn l5 l6 l9 (e3_w32 (l10 + 1)) H2 G)) ∧ (¬ ((l10 : Int) < (H 83 l9)) → ((0 : Int) ≤ l9 ∧ (l9 : Int) < 192) ∧ (wM_runs_408 Q k152 l5 l6 (H 80 l9) 1 H G))) := h
    obtain ⟨o1, h⟩ := h
    refine e3_K [0, 0, 4, 0, 2] 363 [(2, 40), (3, 0), (3, 0), (3, 0), (3, 0), (0, l5), (0, l6), (3, 0), (3, 0), (0, l9), (0, l10)] [(0, (H 83 l9)), (0, l10)] (H) (G) (wZ L xs) (M := tbM286) rfl rfl ⟨trivial, o1, trivial⟩ ?_
    refine e3_br (M := tbM286) rfl rfl rfl Iff.rfl (fun hc => ?_) (fun hc => ?_)
    · replace h := h.1 hc
      obtain ⟨o3, o4, o5, h⟩ := h
      refine e3_K [0, 4, 0, 0, 4, 0, 4, 0, 0, 0, 0, 0, 2, 2, 2] 390 [(2, 40), (3, 0), (3, 0), (3, 0), (3, 0), (0, l5), (0, l6), (3, 0), (3, 0), (0, l9), (0, l10)] [] (e3_up H 135 l10 (H 136 (H 84 (e3_w32 ((e3_w32 (3 * l9)) + l10))))) (G) (wZ L xs) (M := tbM286) rfl rfl ⟨trivial, trivial, trivial, o3, o4, o5, trivial⟩ ?_
      generalize hH2 : (e3_up H 135 l10 (H 136 (H 84 (e3_w32 ((e3_w32 (3 * l9)) + l10))))) = H2
      replace h := h H2 hH2.symm
      refine e3_K [0, 0] 354 [(2, 40), (3, 0), (3, 0), (3, 0), (3, 0), (0, l5), (0, l6), (3, 0), (3, 0), (0, l9), (0, (e3_w32 (l10 + 1)))] [] (H2) (G) (wZ L xs) (M := tbM286) rfl rfl trivial ?_
      exact ih _ _ _ _ _ _ h
    · replace h := h.2 hc
      obtain ⟨o6, h⟩ := h
      refine e3_K [0, 4, 0, 2, 0, 0, 0] 408 [(2, 40), (3, 0), (3, 0), (3, 0), (3, 0), (0, l5), (0, l6), (0, (H 80 l9)), (0, 1), (0, l9), (0, l10)] [] (H) (G) (wZ L xs) (M := tbM286) rfl rfl ⟨trivial, o6, trivial⟩ ?_
      refine e3_fgt [true, false, false, false, false, true, true, true, true, false, false] ?_
      exact sM_runs_408 L xs Q k152 hk152 _ _ _ _ _ _ h
set_option maxRecDepth 100000 in
set_option maxHeartbeats 4000000 in
theorem sM_runs_328 (L : Nat) (xs : Nat → Int32) (Q : Int → e3_H → e3_G → Prop) (k152 : Int → Int → Int → Int → e3_H → e3_G → Prop) (hk152 : ∀ (l5 : Int) (l6 : Int) (l7 : Int) (l8 : Int) (H : e3_H) (G : e3_G), k152 l5 l6 l7 l8 H G → e3_Ev (wB L xs) 4 102 286 152 [(2, 40), (3, 0), (3, 0), (3, 0), (3, 0), (0, l5), (0, l6), (0, l7), (0, l8), (3, 0), (3, 0)] [] H G (e3_q0 Q)) (l5 : Int) (l6 : Int) (l7 : Int) (l8 : Int) (s0 : Int) (H : e3_H) (G : e3_G) (h : wM_runs_328 Q k152 l5 l6 l7 l8 s0 H G) : e3_Ev (wB L xs) 4 102 286 328 [(2, 40), (3, 0), (3, 0), (3, 0), (3, 0), (0, l5), (0, l6), (0, l7), (0, l8), (3, 0), (3, 0)] [(0, s0), (2, 40)] H G (e3_q0 Q) := by
  unfold wM_runs_328 at h
  refine e3_K [2] 331 [(2, 40), (3, 0), (3, 0), (3, 0), (3, 0), (0, l5), (0, l6), (0, l7), (0, l8), (3, 0), (3, 0)] [] (e3_up H 40 120 s0) (G) (wZ L xs) (M := tbM286) rfl rfl ⟨trivial, trivial⟩ ?_
  generalize hH1 : (e3_up H 40 120 s0) = H1
  replace h := h H1 hH1.symm
  refine e3_K [0] 408 [(2, 40), (3, 0), (3, 0), (3, 0), (3, 0), (0, l5), (0, l6), (0, l7), (0, l8), (3, 0), (3, 0)] [] (H1) (G) (wZ L xs) (M := tbM286) rfl rfl trivial ?_
  exact sM_runs_408 L xs Q k152 hk152 _ _ _ _ _ _ h
set_option maxRecDepth 100000 in
set_option maxHeartbeats 4000000 in
theorem sM_runs_270 (L : Nat) (xs : Nat → Int32) (Q : Int → e3_H → e3_G → Prop) (k152 : Int → Int → Int → Int → e3_H → e3_G → Prop) (hk152 : ∀ (l5 : Int) (l6 : Int) (l7 : Int) (l8 : Int) (H : e3_H) (G : e3_G), k152 l5 l6 l7 l8 H G → e3_Ev (wB L xs) 4 102 286 152 [(2, 40), (3, 0), (3, 0), (3, 0), (3, 0), (0, l5), (0, l6), (0, l7), (0, l8), (3, 0), (3, 0)] [] H G (e3_q0 Q)) (l5 : Int) (l6 : Int) (l7 : Int) (l8 : Int) (l9 : Int) (H : e3_H) (G : e3_G) (h : wM_runs_270 Q k152 l5 l6 l7 l8 l9 H G) : e3_Ev (wB L xs) 4 102 286 270 [(2, 40), (3, 0), (3, 0), (3, 0), (3, 0), (0, l5), (0, l6), (0, l7), (0, l8), (0, l9), (3, 0)] [] H G (e3_q0 Q) := by
  unfold wM_runs_270 at h
  obtain ⟨o1, h⟩ := h
  refine e3_K [0, 4, 0, 2, 0] 278 [(2, 40), (3, 0), (3, 0), (3, 0), (3, 0), (0, l5), (0, l6), (0, l7), (0, l8), (0, l9), (3, 0)] [(0, 2), (0, (H 79 l9))] (H) (G) (wZ L xs) (M := tbM286) rfl rfl ⟨trivial, o1, trivial⟩ ?_
  refine e3_br (M := tbM286) rfl rfl rfl Iff.rfl (fun hc => ?_) (fun hc => ?_)
  · replace h := h.1 hc
    obtain ⟨o3, h⟩ := h
    refine e3_K [0, 0, 0, 1, 2] 290 [(2, 40), (3, 0), (3, 0), (3, 0), (3, 0), (0, l5), (0, l6), (0, l7), (0, l8), (0, l9), (3, 0)] [] (e3_up H 40 125 (e3_rem l9 16)) (G) (wZ L xs) (M := tbM286) rfl rfl ⟨o3, trivial, trivial⟩ ?_
    generalize hH2 : (e3_up H 40 125 (e3_rem l9 16)) = H2
    replace h := h H2 hH2.symm
    obtain ⟨o4, h⟩ := h
    refine e3_K [0, 0, 4, 0, 2] 298 [(2, 40), (3, 0), (3, 0), (3, 0), (3, 0), (0, l5), (0, l6), (0, l7), (0, l8), (0, l9), (3, 0)] [(0, (H2 79 l9)), (2, 40)] (H2) (G) (wZ L xs) (M := tbM286) rfl rfl ⟨trivial, o4, trivial⟩ ?_
    refine e3_br (M := tbM286) rfl rfl rfl Iff.rfl (fun hc => ?_) (fun hc => ?_)
    · replace h := h.1 hc
      obtain ⟨o5, h⟩ := h
      refine e3_K [0, 4, 0, 2, 0] 328 [(2, 40), (3, 0), (3, 0), (3, 0), (3, 0), (0, l5), (0, l6), (0, l7), (0, l8), (0, l9), (3, 0)] [(0, (H2 80 l9)), (2, 40)] (H2) (G) (wZ L xs) (M := tbM286) rfl rfl ⟨trivial, o5, trivial⟩ ?_
      refine e3_fgt [true, false, false, false, false, true, true, true, true, false, false] ?_
      exact sM_runs_328 L xs Q k152 hk152 _ _ _ _ _ _ _ h
    · replace h := h.2 hc
      obtain ⟨o6, o7, o8, h⟩ := h
      refine e3_K [0, 4, 0, 4, 0, 4, 0, 2, 2, 2] 328 [(2, 40), (3, 0), (3, 0), (3, 0), (3, 0), (0, l5), (0, l6), (0, l7), (0, l8), (0, l9), (3, 0)] [(0, (H2 129 (H2 136 (H2 80 l9)))), (2, 40)] (H2) (G) (wZ L xs) (M := tbM286) rfl rfl ⟨trivial, trivial, trivial, o6, o7, o8, trivial⟩ ?_
      refine e3_fgt [true, false, false, false, false, true, true, true, true, false, false] ?_
      exact sM_runs_328 L xs Q k152 hk152 _ _ _ _ _ _ _ h
  · replace h := h.2 hc
    refine e3_K [0, 2, 0] 340 [(2, 40), (3, 0), (3, 0), (3, 0), (3, 0), (0, l5), (0, l6), (0, l7), (0, l8), (0, l9), (3, 0)] [(0, 100), (0, (H 40 121))] (H) (G) (wZ L xs) (M := tbM286) rfl rfl ⟨trivial, trivial⟩ ?_
    refine e3_br (M := tbM286) rfl rfl rfl Iff.rfl (fun hc => ?_) (fun hc => ?_)
    · replace h := h.1 hc
      refine e3_K [0, 0, 2] 348 [(2, 40), (3, 0), (3, 0), (3, 0), (3, 0), (0, l5), (0, l6), (0, l7), (0, l8), (0, l9), (3, 0)] [] (e3_up H 40 119 4) (G) (wZ L xs) (M := tbM286) rfl rfl ⟨trivial, trivial⟩ ?_
      generalize hH9 : (e3_up H 40 119 4) = H9
      replace h := h H9 hH9.symm
      refine e3_K [0] 408 [(2, 40), (3, 0), (3, 0), (3, 0), (3, 0), (0, l5), (0, l6), (0, l7), (0, l8), (0, l9), (3, 0)] [] (H9) (G) (wZ L xs) (M := tbM286) rfl rfl trivial ?_
      refine e3_fgt [true, false, false, false, false, true, true, true, true, false, false] ?_
      exact sM_runs_408 L xs Q k152 hk152 _ _ _ _ _ _ h
    · replace h := h.2 hc
      refine e3_K [0, 0] 354 [(2, 40), (3, 0), (3, 0), (3, 0), (3, 0), (0, l5), (0, l6), (0, l7), (0, l8), (0, l9), (0, 0)] [] (H) (G) (wZ L xs) (M := tbM286) rfl rfl trivial ?_
      refine e3_fgt [true, false, false, false, false, true, true, false, false, true, true] ?_
      obtain ⟨nl, h⟩ := h
      exact sM_runs_354 L xs Q k152 hk152 nl _ _ _ _ _ _ h
set_option maxRecDepth 100000 in
set_option maxHeartbeats 4000000 in
theorem sM_runs_243 (L : Nat) (xs : Nat → Int32) (Q : Int → e3_H → e3_G → Prop) (k152 : Int → Int → Int → Int → e3_H → e3_G → Prop) (hk152 : ∀ (l5 : Int) (l6 : Int) (l7 : Int) (l8 : Int) (H : e3_H) (G : e3_G), k152 l5 l6 l7 l8 H G → e3_Ev (wB L xs) 4 102 286 152 [(2, 40), (3, 0), (3, 0), (3, 0), (3, 0), (0, l5), (0, l6), (0, l7), (0, l8), (3, 0), (3, 0)] [] H G (e3_q0 Q)) : ∀ (nl : Nat) (l5 : Int) (l6 : Int) (l7 : Int) (l8 : Int) (l9 : Int) (l10 : Int) (H : e3_H) (G : e3_G), wM_runs_243 Q k152 nl l5 l6 l7 l8 l9 l10 H G → e3_Ev (wB L xs) 4 102 286 243 [(2, 40), (3, 0), (3, 0), (3, 0), (3, 0), (0, l5), (0, l6), (0, l7), (0, l8), (0, l9), (0, l10)] [] H G (e3_q0 Q) := by
  intro nl
  induction nl with
  | zero => intro l5 l6 l7 l8 l9 l10 H G h; exact h.elim
  | succ nn ih =>
    intro l5 l6 l7 l8 l9 l10 H G h
    have h : (((l10 : Int) < 8 → ((0 : Int) ≤ l10 ∧ (l10 : Int) < 8) ∧ ((0 : Int) ≤ l10 ∧ (l10 : Int) < 8) ∧ ∀ H1 : e3_H, H1 = e3_up H 138 l10 (H 136 l10) → (wM_runs_243 Q k152 nn l5 l6 l7 l8 l9 (e3_w32 (l10 + 1)) H1 G)) ∧ (¬ ((l10 : Int) < 8) → (wM_runs_270 Q k152 l5 l6 l7 l8 l9 H G))) := h
    refine e3_K [0, 0] 247 [(2, 40), (3, 0), (3, 0), (3, 0), (3, 0), (0, l5), (0, l6), (0, l7), (0, l8), (0, l9), (0, l10)] [(0, 8), (0, l10)] (H) (G) (wZ L xs) (M := tbM286) rfl rfl trivial ?_
    refine e3_br (M := tbM286) rfl rfl rfl Iff.rfl (fun hc => ?_) (fun hc => ?_)
    · replace h := h.1 hc
      obtain ⟨o2, o3, h⟩ := h
      refine e3_K [0, 4, 0, 0, 4, 0, 2, 2] 264 [(2, 40), (3, 0), (3, 0), (3, 0), (3, 0), (0, l5), (0, l6), (0, l7), (0, l8), (0, l9), (0, l10)] [] (e3_up H 138 l10 (H 136 l10)) (G) (wZ L xs) (M := tbM286) rfl rfl ⟨trivial, trivial, o2, o3, trivial⟩ ?_
      generalize hH1 : (e3_up H 138 l10 (H 136 l10)) = H1
      replace h := h H1 hH1.symm
      refine e3_K [0, 0] 243 [(2, 40), (3, 0), (3, 0), (3, 0), (3, 0), (0, l5), (0, l6), (0, l7), (0, l8), (0, l9), (0, (e3_w32 (l10 + 1)))] [] (H1) (G) (wZ L xs) (M := tbM286) rfl rfl trivial ?_
      exact ih _ _ _ _ _ _ _ _ h
    · replace h := h.2 hc
      refine e3_fgt [true, false, false, false, false, true, true, true, true, true, false] ?_
      exact sM_runs_270 L xs Q k152 hk152 _ _ _ _ _ _ _ h
set_option maxRecDepth 100000 in
set_option maxHeartbeats 4000000 in
theorem sM_runs_199 (L : Nat) (xs : Nat → Int32) (Q : Int → e3_H → e3_G → Prop) (k152 : Int → Int → Int → Int → e3_H → e3_G → Prop) (hk152 : ∀ (l5 : Int) (l6 : Int) (l7 : Int) (l8 : Int) (H : e3_H) (G : e3_G), k152 l5 l6 l7 l8 H G → e3_Ev (wB L xs) 4 102 286 152 [(2, 40), (3, 0), (3, 0), (3, 0), (3, 0), (0, l5), (0, l6), (0, l7), (0, l8), (3, 0), (3, 0)] [] H G (e3_q0 Q)) (l5 : Int) (l6 : Int) (l7 : Int) (s0 : Int) (H : e3_H) (G : e3_G) (h : wM_runs_199 Q k152 l5 l6 l7 s0 H G) : e3_Ev (wB L xs) 4 102 286 199 [(2, 40), (3, 0), (3, 0), (3, 0), (3, 0), (0, l5), (0, l6), (0, l7), (3, 0), (3, 0), (3, 0)] [(0, s0)] H G (e3_q0 Q) := by
  unfold wM_runs_199 at h
  refine e3_K [0, 0, 0, 0, 0] 208 [(2, 40), (3, 0), (3, 0), (3, 0), (3, 0), (0, l5), (0, l6), (0, l7), (0, 0), (0, s0), (3, 0)] [(0, (-4)), (0, s0)] (H) (G) (wZ L xs) (M := tbM286) rfl rfl trivial ?_
  refine e3_br (M := tbM286) rfl rfl rfl Iff.rfl (fun hc => ?_) (fun hc => ?_)
  · replace h := h.1 hc
    refine e3_K [0] 152 [(2, 40), (3, 0), (3, 0), (3, 0), (3, 0), (0, l5), (0, l6), (0, l7), (0, 0), (0, s0), (3, 0)] [] (H) (G) (wZ L xs) (M := tbM286) rfl rfl trivial ?_
    refine e3_fgt [true, false, false, false, false, true, true, true, true, false, false] ?_
    exact hk152 _ _ _ _ _ _ h
  · replace h := h.2 hc
    refine e3_K [0, 2, 0] 219 [(2, 40), (3, 0), (3, 0), (3, 0), (3, 0), (0, l5), (0, l6), (0, l7), (0, 0), (0, s0), (3, 0)] [(0, 1), (0, (H 40 121))] (H) (G) (wZ L xs) (M := tbM286) rfl rfl ⟨trivial, trivial⟩ ?_
    refine e3_br (M := tbM286) rfl rfl rfl Iff.rfl (fun hc => ?_) (fun hc => ?_)
    · replace h := h.1 hc
      obtain ⟨o2, o3, h⟩ := h
      refine e3_K [0, 0, 1, 0, 0, 0, 4, 0, 2, 2] 240 [(2, 40), (3, 0), (3, 0), (3, 0), (3, 0), (0, l5), (0, (e3_rem s0 16)), (0, l7), (0, 0), (0, s0), (3, 0)] [] (e3_up H 40 128 (H 56 s0)) (G) (wZ L xs) (M := tbM286) rfl rfl ⟨o2, trivial, o3, trivial, trivial⟩ ?_
      generalize hH1 : (e3_up H 40 128 (H 56 s0)) = H1
      replace h := h H1 hH1.symm
      refine e3_K [0, 0] 243 [(2, 40), (3, 0), (3, 0), (3, 0), (3, 0), (0, l5), (0, (e3_rem s0 16)), (0, l7), (0, 0), (0, s0), (0, 0)] [] (H1) (G) (wZ L xs) (M := tbM286) rfl rfl trivial ?_
      obtain ⟨nl, h⟩ := h
      exact sM_runs_243 L xs Q k152 hk152 nl _ _ _ _ _ _ _ _ h
    · replace h := h.2 hc
      exact sM_runs_270 L xs Q k152 hk152 _ _ _ _ _ _ _ h
set_option maxRecDepth 100000 in
set_option maxHeartbeats 4000000 in
theorem sM_runs_152 (L : Nat) (xs : Nat → Int32) (Q : Int → e3_H → e3_G → Prop) : ∀ (nl : Nat) (l5 : Int) (l6 : Int) (l7 : Int) (l8 : Int) (H : e3_H) (G : e3_G), wM_runs_152 Q nl l5 l6 l7 l8 H G → e3_Ev (wB L xs) 4 102 286 152 [(2, 40), (3, 0), (3, 0), (3, 0), (3, 0), (0, l5), (0, l6), (0, l7), (0, l8), (3, 0), (3, 0)] [] H G (e3_q0 Q) := by
  intro nl
  induction nl with
  | zero => intro l5 l6 l7 l8 H G h; exact h.elim
  | succ nn ih =>
    intro l5 l6 l7 l8 H G h
    have h : (((l8 : Int) = 0 → ∀ H1 : e3_H, H1 = e3_up H 40 126 1 → Q l6 H1 G) ∧ (¬ ((l8 : Int) = 0) → ∀ H2 : e3_H, H2 = e3_up H 40 121 (e3_w32 ((H 40 121) + 1)) → ∀ H3 : e3_H, H3 = e3_up H2 40 124 l7 → ∀ H4 : e3_H, H4 = e3_up H3 40 125 (-4) → (((l5 : Int) = 0 → (wM_byRules (fun x7 H5 G6 => (wM_runs_199 Q (fun l5 l6 l7 l8 H G => wM_runs_152 Q nn l5 l6 l7 l8 H G) l5 l6 l7 x7 H5 G6)) l7 H4 G)) ∧ (¬ ((l5 : Int) = 0) → (wM_byTree (fun x10 H8 G9 => (wM_runs_199 Q (fun l5 l6 l7 l8 H G => wM_runs_152 Q nn l5 l6 l7 l8 H G) l5 l6 l7 x10 H8 G9)) l7 H4 G))))) := h
    refine e3_K [0] 154 [(2, 40), (3, 0), (3, 0), (3, 0), (3, 0), (0, l5), (0, l6), (0, l7), (0, l8), (3, 0), (3, 0)] [(0, l8)] (H) (G) (wZ L xs) (M := tbM286) rfl rfl trivial ?_
    refine e3_br (M := tbM286) rfl rfl rfl Iff.rfl (fun hc => ?_) (fun hc => ?_)
    · replace h := h.1 hc
      refine e3_K [0, 0, 2] 416 [(2, 40), (3, 0), (3, 0), (3, 0), (3, 0), (0, l5), (0, l6), (0, l7), (0, l8), (3, 0), (3, 0)] [] (e3_up H 40 126 1) (G) (wZ L xs) (M := tbM286) rfl rfl ⟨(Or.inr rfl), trivial⟩ ?_
      generalize hH1 : (e3_up H 40 126 1) = H1
      replace h := h H1 hH1.symm
      refine e3_K [0] 418 [(2, 40), (3, 0), (3, 0), (3, 0), (3, 0), (0, l5), (0, l6), (0, l7), (0, l8), (3, 0), (3, 0)] [(0, l6)] (H1) (G) (wZ L xs) (M := tbM286) rfl rfl trivial ?_
      exact e3_reti (M := tbM286) rfl rfl rfl ⟨_, rfl, h⟩
    · replace h := h.2 hc
      refine e3_K [0, 0, 2, 0, 0, 2] 167 [(2, 40), (3, 0), (3, 0), (3, 0), (3, 0), (0, l5), (0, l6), (0, l7), (0, l8), (3, 0), (3, 0)] [] (e3_up H 40 121 (e3_w32 ((H 40 121) + 1))) (G) (wZ L xs) (M := tbM286) rfl rfl ⟨trivial, trivial, trivial⟩ ?_
      generalize hH2 : (e3_up H 40 121 (e3_w32 ((H 40 121) + 1))) = H2
      replace h := h H2 hH2.symm
      refine e3_K [0, 0, 2] 173 [(2, 40), (3, 0), (3, 0), (3, 0), (3, 0), (0, l5), (0, l6), (0, l7), (0, l8), (3, 0), (3, 0)] [] (e3_up H2 40 124 l7) (G) (wZ L xs) (M := tbM286) rfl rfl ⟨trivial, trivial⟩ ?_
      generalize hH3 : (e3_up H2 40 124 l7) = H3
      replace h := h H3 hH3.symm
      refine e3_K [0, 0, 2] 179 [(2, 40), (3, 0), (3, 0), (3, 0), (3, 0), (0, l5), (0, l6), (0, l7), (0, l8), (3, 0), (3, 0)] [] (e3_up H3 40 125 (-4)) (G) (wZ L xs) (M := tbM286) rfl rfl ⟨trivial, trivial⟩ ?_
      generalize hH4 : (e3_up H3 40 125 (-4)) = H4
      replace h := h H4 hH4.symm
      refine e3_K [0] 181 [(2, 40), (3, 0), (3, 0), (3, 0), (3, 0), (0, l5), (0, l6), (0, l7), (0, l8), (3, 0), (3, 0)] [(0, l5)] (H4) (G) (wZ L xs) (M := tbM286) rfl rfl trivial ?_
      refine e3_br (M := tbM286) rfl rfl rfl Iff.rfl (fun hc => ?_) (fun hc => ?_)
      · replace h := h.1 hc
        refine e3_K [0, 0] 196 [(2, 40), (3, 0), (3, 0), (3, 0), (3, 0), (0, l5), (0, l6), (0, l7), (0, l8), (3, 0), (3, 0)] [(0, l7), (2, 40)] (H4) (G) (wZ L xs) (M := tbM286) rfl rfl trivial ?_
        refine e3_call (o := 0) (k := 296) (M2 := tbM296) (f1 := 3) (w1 := 77) (as := [(2, 40), (0, l7)]) (rest := []) (M := tbM286) rfl rfl rfl trivial (Nat.le_of_ble_eq_true rfl) (Nat.le_of_ble_eq_true rfl) (Nat.le_of_ble_eq_true rfl) ?_
        refine e3_mono (sM_byRules L xs _ _ _ _ h) (fun r H5 G6 h => ?_)
        obtain ⟨x7, rfl, h⟩ := h
        change e3_Ev _ _ _ _ 199 [(2, 40), (3, 0), (3, 0), (3, 0), (3, 0), (0, l5), (0, l6), (0, l7), (0, l8), (3, 0), (3, 0)] [(0, x7)] H5 G6 _
        refine e3_fgt [true, false, false, false, false, true, true, true, false, false, false] ?_
        exact sM_runs_199 L xs Q (fun l5 l6 l7 l8 H G => wM_runs_152 Q nn l5 l6 l7 l8 H G) ih _ _ _ _ _ _ h
      · replace h := h.2 hc
        refine e3_K [0, 0] 187 [(2, 40), (3, 0), (3, 0), (3, 0), (3, 0), (0, l5), (0, l6), (0, l7), (0, l8), (3, 0), (3, 0)] [(0, l7), (2, 40)] (H4) (G) (wZ L xs) (M := tbM286) rfl rfl trivial ?_
        refine e3_call (o := 0) (k := 287) (M2 := tbM287) (f1 := 3) (w1 := 77) (as := [(2, 40), (0, l7)]) (rest := []) (M := tbM286) rfl rfl rfl trivial (Nat.le_of_ble_eq_true rfl) (Nat.le_of_ble_eq_true rfl) (Nat.le_of_ble_eq_true rfl) ?_
        refine e3_mono (sM_byTree L xs _ _ _ _ h) (fun r H8 G9 h => ?_)
        obtain ⟨x10, rfl, h⟩ := h
        change e3_Ev _ _ _ _ 190 [(2, 40), (3, 0), (3, 0), (3, 0), (3, 0), (0, l5), (0, l6), (0, l7), (0, l8), (3, 0), (3, 0)] [(0, x10)] H8 G9 _
        refine e3_K [0] 199 [(2, 40), (3, 0), (3, 0), (3, 0), (3, 0), (0, l5), (0, l6), (0, l7), (0, l8), (3, 0), (3, 0)] [(0, x10)] (H8) (G9) (wZ L xs) (M := tbM286) rfl rfl trivial ?_
        refine e3_fgt [true, false, false, false, false, true, true, true, false, false, false] ?_
        exact sM_runs_199 L xs Q (fun l5 l6 l7 l8 H G => wM_runs_152 Q nn l5 l6 l7 l8 H G) ih _ _ _ _ _ _ h
set_option maxRecDepth 100000 in
set_option maxHeartbeats 4000000 in
theorem sM_runs_76 (L : Nat) (xs : Nat → Int32) (Q : Int → e3_H → e3_G → Prop)  (H : e3_H) (G : e3_G) (h : wM_runs_76 Q  H G) : e3_Ev (wB L xs) 4 102 286 76 [(3, 0), (3, 0), (3, 0), (3, 0), (3, 0), (3, 0), (3, 0), (3, 0), (3, 0), (3, 0), (3, 0)] [] H G (e3_q0 Q) := by
  unfold wM_runs_76 at h
  refine e3_K [0] 77 [(3, 0), (3, 0), (3, 0), (3, 0), (3, 0), (3, 0), (3, 0), (3, 0), (3, 0), (3, 0), (3, 0)] [(0, (-1))] (H) (G) (wZ L xs) (M := tbM286) rfl rfl trivial ?_
  exact e3_reti (M := tbM286) rfl rfl rfl ⟨_, rfl, h⟩
set_option maxRecDepth 100000 in
set_option maxHeartbeats 4000000 in
theorem sM_runs_45 (L : Nat) (xs : Nat → Int32) (Q : Int → e3_H → e3_G → Prop) (k13 : Int → Int → Int → Int → Int → Int → e3_H → e3_G → Prop) (hk13 : ∀ (l1 : Int) (l2 : Int) (l3 : Int) (l4 : Int) (l5 : Int) (l6 : Int) (H : e3_H) (G : e3_G), k13 l1 l2 l3 l4 l5 l6 H G → e3_Ev (wB L xs) 4 102 286 13 [(2, 40), (0, l1), (0, l2), (0, l3), (0, l4), (0, l5), (0, l6), (3, 0), (3, 0), (3, 0), (3, 0)] [] H G (e3_q0 Q)) (l1 : Int) (l2 : Int) (l3 : Int) (l4 : Int) (l5 : Int) (l6 : Int) (s0 : Int) (H : e3_H) (G : e3_G) (h : wM_runs_45 Q k13 l1 l2 l3 l4 l5 l6 s0 H G) : e3_Ev (wB L xs) 4 102 286 45 [(2, 40), (0, l1), (0, l2), (0, l3), (0, l4), (0, l5), (0, l6), (3, 0), (3, 0), (3, 0), (3, 0)] [(0, s0)] H G (e3_q0 Q) := by
  unfold wM_runs_45 at h
  refine e3_K [0, 0, 0] 50 [(2, 40), (0, l1), (0, l2), (0, l3), (0, l4), (0, l5), (0, l6), (0, s0), (3, 0), (3, 0), (3, 0)] [(0, s0), (2, 40)] (H) (G) (wZ L xs) (M := tbM286) rfl rfl trivial ?_
  refine e3_call (o := 0) (k := 281) (M2 := tbM281) (f1 := 1) (w1 := 25) (as := [(2, 40), (0, s0)]) (rest := []) (M := tbM286) rfl rfl rfl trivial (Nat.le_of_ble_eq_true rfl) (Nat.le_of_ble_eq_true rfl) (Nat.le_of_ble_eq_true rfl) ?_
  refine e3_mono (sM_isValue L xs _ _ _ _ h) (fun r H1 G2 h => ?_)
  obtain ⟨x3, rfl, h⟩ := h
  change e3_Ev _ _ _ _ 53 [(2, 40), (0, l1), (0, l2), (0, l3), (0, l4), (0, l5), (0, l6), (0, s0), (3, 0), (3, 0), (3, 0)] [(0, x3)] H1 G2 _
  refine e3_br (M := tbM286) rfl rfl rfl Iff.rfl (fun hc => ?_) (fun hc => ?_)
  · replace h := h.1 hc
    refine e3_fgt [false, false, false, false, false, false, false, false, false, false, false] ?_
    exact sM_runs_76 L xs Q _ _ h
  · replace h := h.2 hc
    obtain ⟨o4, h⟩ := h
    refine e3_K [0, 0, 0, 4, 0, 0, 0, 0, 0, 2] 70 [(2, 40), (0, l1), (0, l2), (0, l3), (0, l4), (0, l5), (0, l6), (0, s0), (3, 0), (3, 0), (3, 0)] [(0, (H1 69 (e3_w32 ((e3_w32 (3 * l1)) + l6)))), (0, s0), (2, 40)] (H1) (G2) (wZ L xs) (M := tbM286) rfl rfl ⟨trivial, o4, trivial⟩ ?_
    refine e3_call (o := 0) (k := 282) (M2 := tbM282) (f1 := 1) (w1 := 23) (as := [(2, 40), (0, s0), (0, (H1 69 (e3_w32 ((e3_w32 (3 * l1)) + l6))))]) (rest := []) (M := tbM286) rfl rfl rfl trivial (Nat.le_of_ble_eq_true rfl) (Nat.le_of_ble_eq_true rfl) (Nat.le_of_ble_eq_true rfl) ?_
    refine e3_mono (sM_isOfSort L xs _ _ _ _ _ h) (fun r H5 G6 h => ?_)
    obtain ⟨x7, rfl, h⟩ := h
    change e3_Ev _ _ _ _ 73 [(2, 40), (0, l1), (0, l2), (0, l3), (0, l4), (0, l5), (0, l6), (0, s0), (3, 0), (3, 0), (3, 0)] [(0, x7)] H5 G6 _
    refine e3_br (M := tbM286) rfl rfl rfl Iff.rfl (fun hc => ?_) (fun hc => ?_)
    · replace h := h.1 hc
      refine e3_fgt [false, false, false, false, false, false, false, false, false, false, false] ?_
      exact sM_runs_76 L xs Q _ _ h
    · replace h := h.2 hc
      refine e3_K [0, 0] 13 [(2, 40), (0, l1), (0, l2), (0, l3), (0, l4), (0, l5), (0, (e3_w32 (l6 + 1))), (0, s0), (3, 0), (3, 0), (3, 0)] [] (H5) (G6) (wZ L xs) (M := tbM286) rfl rfl trivial ?_
      refine e3_fgt [true, true, true, true, true, true, true, false, false, false, false] ?_
      exact hk13 _ _ _ _ _ _ _ _ h
set_option maxRecDepth 100000 in
set_option maxHeartbeats 4000000 in
theorem sM_runs_13 (L : Nat) (xs : Nat → Int32) (Q : Int → e3_H → e3_G → Prop) : ∀ (nl : Nat) (l1 : Int) (l2 : Int) (l3 : Int) (l4 : Int) (l5 : Int) (l6 : Int) (H : e3_H) (G : e3_G), wM_runs_13 Q nl l1 l2 l3 l4 l5 l6 H G → e3_Ev (wB L xs) 4 102 286 13 [(2, 40), (0, l1), (0, l2), (0, l3), (0, l4), (0, l5), (0, l6), (3, 0), (3, 0), (3, 0), (3, 0)] [] H G (e3_q0 Q) := by
  intro nl
  induction nl with
  | zero => intro l1 l2 l3 l4 l5 l6 H G h; exact h.elim
  | succ nn ih =>
    intro l1 l2 l3 l4 l5 l6 H G h
    have h : ((0 : Int) ≤ l1 ∧ (l1 : Int) < 12) ∧ (((l6 : Int) < (H 68 l1) → (((l6 : Int) = 0 → (wM_runs_45 Q (fun l1 l2 l3 l4 l5 l6 H G => wM_runs_13 Q nn l1 l2 l3 l4 l5 l6 H G) l1 l2 l3 l4 l5 l6 l2 H G)) ∧ (¬ ((l6 : Int) = 0) → (((l6 : Int) = 1 → (wM_runs_45 Q (fun l1 l2 l3 l4 l5 l6 H G => wM_runs_13 Q nn l1 l2 l3 l4 l5 l6 H G) l1 l2 l3 l4 l5 l6 l3 H G)) ∧ (¬ ((l6 : Int) = 1) → (wM_runs_45 Q (fun l1 l2 l3 l4 l5 l6 H G => wM_runs_13 Q nn l1 l2 l3 l4 l5 l6 H G) l1 l2 l3 l4 l5 l6 l4 H G)))))) ∧ (¬ ((l6 : Int) < (H 68 l1)) → ∀ H2 : e3_H, H2 = e3_up H 135 0 l2 → ∀ H3 : e3_H, H3 = e3_up H2 135 1 l3 → ∀ H4 : e3_H, H4 = e3_up H3 135 2 l4 → ∀ H5 : e3_H, H5 = e3_up H4 40 119 0 → ∀ H6 : e3_H, H6 = e3_up H5 40 120 0 → ∀ H7 : e3_H, H7 = e3_up H6 40 121 0 → ∀ H8 : e3_H, H8 = e3_up H7 40 122 0 → ∀ H9 : e3_H, H9 = e3_up H8 40 123 0 → ∀ H10 : e3_H, H10 = e3_up H9 40 128 0 → ∀ H11 : e3_H, H11 = e3_up H10 40 125 (-4) → (∃ n, wM_runs_152 Q n l5 (-4) l1 1 H11 G))) := h
    obtain ⟨o1, h⟩ := h
    refine e3_K [0, 0, 4, 0, 2] 21 [(2, 40), (0, l1), (0, l2), (0, l3), (0, l4), (0, l5), (0, l6), (3, 0), (3, 0), (3, 0), (3, 0)] [(0, (H 68 l1)), (0, l6)] (H) (G) (wZ L xs) (M := tbM286) rfl rfl ⟨trivial, o1, trivial⟩ ?_
    refine e3_br (M := tbM286) rfl rfl rfl Iff.rfl (fun hc => ?_) (fun hc => ?_)
    · replace h := h.1 hc
      refine e3_K [0] 26 [(2, 40), (0, l1), (0, l2), (0, l3), (0, l4), (0, l5), (0, l6), (3, 0), (3, 0), (3, 0), (3, 0)] [(0, l6)] (H) (G) (wZ L xs) (M := tbM286) rfl rfl trivial ?_
      refine e3_br (M := tbM286) rfl rfl rfl Iff.rfl (fun hc => ?_) (fun hc => ?_)
      · replace h := h.1 hc
        refine e3_K [0, 0] 45 [(2, 40), (0, l1), (0, l2), (0, l3), (0, l4), (0, l5), (0, l6), (3, 0), (3, 0), (3, 0), (3, 0)] [(0, l2)] (H) (G) (wZ L xs) (M := tbM286) rfl rfl trivial ?_
        exact sM_runs_45 L xs Q (fun l1 l2 l3 l4 l5 l6 H G => wM_runs_13 Q nn l1 l2 l3 l4 l5 l6 H G) ih _ _ _ _ _ _ _ _ _ h
      · replace h := h.2 hc
        refine e3_K [0, 0] 36 [(2, 40), (0, l1), (0, l2), (0, l3), (0, l4), (0, l5), (0, l6), (3, 0), (3, 0), (3, 0), (3, 0)] [(0, 1), (0, l6)] (H) (G) (wZ L xs) (M := tbM286) rfl rfl trivial ?_
        refine e3_br (M := tbM286) rfl rfl rfl Iff.rfl (fun hc => ?_) (fun hc => ?_)
        · replace h := h.1 hc
          refine e3_K [0, 0] 45 [(2, 40), (0, l1), (0, l2), (0, l3), (0, l4), (0, l5), (0, l6), (3, 0), (3, 0), (3, 0), (3, 0)] [(0, l3)] (H) (G) (wZ L xs) (M := tbM286) rfl rfl trivial ?_
          exact sM_runs_45 L xs Q (fun l1 l2 l3 l4 l5 l6 H G => wM_runs_13 Q nn l1 l2 l3 l4 l5 l6 H G) ih _ _ _ _ _ _ _ _ _ h
        · replace h := h.2 hc
          refine e3_K [0] 45 [(2, 40), (0, l1), (0, l2), (0, l3), (0, l4), (0, l5), (0, l6), (3, 0), (3, 0), (3, 0), (3, 0)] [(0, l4)] (H) (G) (wZ L xs) (M := tbM286) rfl rfl trivial ?_
          exact sM_runs_45 L xs Q (fun l1 l2 l3 l4 l5 l6 H G => wM_runs_13 Q nn l1 l2 l3 l4 l5 l6 H G) ih _ _ _ _ _ _ _ _ _ h
    · replace h := h.2 hc
      refine e3_K [0, 4, 0, 0, 2] 91 [(2, 40), (0, l1), (0, l2), (0, l3), (0, l4), (0, l5), (0, l6), (3, 0), (3, 0), (3, 0), (3, 0)] [] (e3_up H 135 0 l2) (G) (wZ L xs) (M := tbM286) rfl rfl ⟨trivial, ⟨by decide, by decide⟩, trivial⟩ ?_
      generalize hH2 : (e3_up H 135 0 l2) = H2
      replace h := h H2 hH2.symm
      refine e3_K [0, 4, 0, 0, 2] 98 [(2, 40), (0, l1), (0, l2), (0, l3), (0, l4), (0, l5), (0, l6), (3, 0), (3, 0), (3, 0), (3, 0)] [] (e3_up H2 135 1 l3) (G) (wZ L xs) (M := tbM286) rfl rfl ⟨trivial, ⟨by decide, by decide⟩, trivial⟩ ?_
      generalize hH3 : (e3_up H2 135 1 l3) = H3
      replace h := h H3 hH3.symm
      refine e3_K [0, 4, 0, 0, 2] 106 [(2, 40), (0, l1), (0, l2), (0, l3), (0, l4), (0, l5), (0, l6), (3, 0), (3, 0), (3, 0), (3, 0)] [] (e3_up H3 135 2 l4) (G) (wZ L xs) (M := tbM286) rfl rfl ⟨trivial, ⟨by decide, by decide⟩, trivial⟩ ?_
      generalize hH4 : (e3_up H3 135 2 l4) = H4
      replace h := h H4 hH4.symm
      refine e3_K [0, 0, 2] 111 [(2, 40), (0, l1), (0, l2), (0, l3), (0, l4), (0, l5), (0, l6), (3, 0), (3, 0), (3, 0), (3, 0)] [] (e3_up H4 40 119 0) (G) (wZ L xs) (M := tbM286) rfl rfl ⟨trivial, trivial⟩ ?_
      generalize hH5 : (e3_up H4 40 119 0) = H5
      replace h := h H5 hH5.symm
      refine e3_K [0, 0, 2] 116 [(2, 40), (0, l1), (0, l2), (0, l3), (0, l4), (0, l5), (0, l6), (3, 0), (3, 0), (3, 0), (3, 0)] [] (e3_up H5 40 120 0) (G) (wZ L xs) (M := tbM286) rfl rfl ⟨trivial, trivial⟩ ?_
      generalize hH6 : (e3_up H5 40 120 0) = H6
      replace h := h H6 hH6.symm
      refine e3_K [0, 0, 2] 121 [(2, 40), (0, l1), (0, l2), (0, l3), (0, l4), (0, l5), (0, l6), (3, 0), (3, 0), (3, 0), (3, 0)] [] (e3_up H6 40 121 0) (G) (wZ L xs) (M := tbM286) rfl rfl ⟨trivial, trivial⟩ ?_
      generalize hH7 : (e3_up H6 40 121 0) = H7
      replace h := h H7 hH7.symm
      refine e3_K [0, 0, 2] 126 [(2, 40), (0, l1), (0, l2), (0, l3), (0, l4), (0, l5), (0, l6), (3, 0), (3, 0), (3, 0), (3, 0)] [] (e3_up H7 40 122 0) (G) (wZ L xs) (M := tbM286) rfl rfl ⟨trivial, trivial⟩ ?_
      generalize hH8 : (e3_up H7 40 122 0) = H8
      replace h := h H8 hH8.symm
      refine e3_K [0, 0, 2] 131 [(2, 40), (0, l1), (0, l2), (0, l3), (0, l4), (0, l5), (0, l6), (3, 0), (3, 0), (3, 0), (3, 0)] [] (e3_up H8 40 123 0) (G) (wZ L xs) (M := tbM286) rfl rfl ⟨trivial, trivial⟩ ?_
      generalize hH9 : (e3_up H8 40 123 0) = H9
      replace h := h H9 hH9.symm
      refine e3_K [0, 0, 2] 136 [(2, 40), (0, l1), (0, l2), (0, l3), (0, l4), (0, l5), (0, l6), (3, 0), (3, 0), (3, 0), (3, 0)] [] (e3_up H9 40 128 0) (G) (wZ L xs) (M := tbM286) rfl rfl ⟨trivial, trivial⟩ ?_
      generalize hH10 : (e3_up H9 40 128 0) = H10
      replace h := h H10 hH10.symm
      refine e3_K [0, 0, 2] 142 [(2, 40), (0, l1), (0, l2), (0, l3), (0, l4), (0, l5), (0, l6), (3, 0), (3, 0), (3, 0), (3, 0)] [] (e3_up H10 40 125 (-4)) (G) (wZ L xs) (M := tbM286) rfl rfl ⟨trivial, trivial⟩ ?_
      generalize hH11 : (e3_up H10 40 125 (-4)) = H11
      replace h := h H11 hH11.symm
      refine e3_K [0, 0, 0, 0, 0, 0] 152 [(2, 40), (0, l1), (0, l2), (0, l3), (0, l4), (0, l5), (0, (-4)), (0, l1), (0, 1), (3, 0), (3, 0)] [] (H11) (G) (wZ L xs) (M := tbM286) rfl rfl trivial ?_
      refine e3_fgt [true, false, false, false, false, true, true, true, true, false, false] ?_
      obtain ⟨nl, h⟩ := h
      exact sM_runs_152 L xs Q nl _ _ _ _ _ _ h
set_option maxRecDepth 100000 in
set_option maxHeartbeats 4000000 in
theorem sM_runs (L : Nat) (xs : Nat → Int32) (Q : Int → e3_H → e3_G → Prop) (l1 : Int) (l2 : Int) (l3 : Int) (l4 : Int) (l5 : Int) (H : e3_H) (G : e3_G) (h : wM_runs Q l1 l2 l3 l4 l5 H G) : e3_Ev (wB L xs) 4 102 286 0 [(2, 40), (0, l1), (0, l2), (0, l3), (0, l4), (0, l5), (3, 0), (3, 0), (3, 0), (3, 0), (3, 0)] [] H G (e3_q0 Q) := by
  unfold wM_runs at h
  refine e3_K [0, 0] 2 [(2, 40), (0, l1), (0, l2), (0, l3), (0, l4), (0, l5), (3, 0), (3, 0), (3, 0), (3, 0), (3, 0)] [(0, l1), (2, 40)] (H) (G) (wZ L xs) (M := tbM286) rfl rfl trivial ?_
  refine e3_call (o := 0) (k := 264) (M2 := tbM264) (f1 := 1) (w1 := 25) (as := [(2, 40), (0, l1)]) (rest := []) (M := tbM286) rfl rfl rfl trivial (Nat.le_of_ble_eq_true rfl) (Nat.le_of_ble_eq_true rfl) (Nat.le_of_ble_eq_true rfl) ?_
  refine e3_mono (sM_isFunction L xs _ _ _ _ h) (fun r H1 G2 h => ?_)
  obtain ⟨x3, rfl, h⟩ := h
  change e3_Ev _ _ _ _ 5 [(2, 40), (0, l1), (0, l2), (0, l3), (0, l4), (0, l5), (3, 0), (3, 0), (3, 0), (3, 0), (3, 0)] [(0, x3)] H1 G2 _
  refine e3_br (M := tbM286) rfl rfl rfl Iff.rfl (fun hc => ?_) (fun hc => ?_)
  · replace h := h.1 hc
    refine e3_K [0] 9 [(2, 40), (0, l1), (0, l2), (0, l3), (0, l4), (0, l5), (3, 0), (3, 0), (3, 0), (3, 0), (3, 0)] [(0, (-1))] (H1) (G2) (wZ L xs) (M := tbM286) rfl rfl trivial ?_
    exact e3_reti (M := tbM286) rfl rfl rfl ⟨_, rfl, h⟩
  · replace h := h.2 hc
    refine e3_K [0, 0] 13 [(2, 40), (0, l1), (0, l2), (0, l3), (0, l4), (0, l5), (0, 0), (3, 0), (3, 0), (3, 0), (3, 0)] [] (H1) (G2) (wZ L xs) (M := tbM286) rfl rfl trivial ?_
    obtain ⟨nl, h⟩ := h
    exact sM_runs_13 L xs Q nl _ _ _ _ _ _ _ _ h
