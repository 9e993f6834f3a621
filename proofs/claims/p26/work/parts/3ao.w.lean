/-- LetterPost$Sorter.labelAt(LLetterPost$Function;I)J -/
def wS_labelAt_34 (Q : Int → e3_H → e3_G → Prop) (s0 : Int) (H : e3_H) (G : e3_G) : Prop :=
  Q s0 H G
def wS_labelAt (Q : Int → e3_H → e3_G → Prop) (l1 : Int) (l2 : Int) (H : e3_H) (G : e3_G) : Prop :=
  (wS_valueAt 9 l1 l2 0 H G (fun x3 H1 G2 => (wL_has (fun x6 H4 G5 => (((x6 : Int) = 0 → (wS_labelAt_34 Q ((-1 : Int64).toInt) H4 G5)) ∧ (¬ ((x6 : Int) = 0) → ((0 : Int) ≤ x3 ∧ (x3 : Int) < 160) ∧ (wS_labelAt_34 Q (H4 28 x3) H4 G5)))) x3 H1 G2)))
set_option maxRecDepth 100000 in
set_option maxHeartbeats 4000000 in
theorem sS_labelAt_34 (L : Nat) (xs : Nat → Int32) (Q : Int → e3_H → e3_G → Prop) (s0 : Int) (H : e3_H) (G : e3_G) (h : wS_labelAt_34 Q s0 H G) : e3_Ev (wB L xs) 21 463 171 34 [(3, 0), (3, 0), (3, 0), (3, 0)] [(1, s0)] H G (e3_q1 Q) := by
  unfold wS_labelAt_34 at h
  exact e3_retl (M := tbM171) rfl rfl rfl ⟨_, rfl, h⟩
set_option maxRecDepth 100000 in
set_option maxHeartbeats 4000000 in
theorem sS_labelAt (L : Nat) (xs : Nat → Int32) (Q : Int → e3_H → e3_G → Prop) (l1 : Int) (l2 : Int) (H : e3_H) (G : e3_G) (h : wS_labelAt Q l1 l2 H G) : e3_Ev (wB L xs) 21 463 171 0 [(2, 34), (2, l1), (0, l2), (3, 0)] [] H G (e3_q1 Q) := by
  unfold wS_labelAt at h
  refine e3_K [0, 0, 0, 0] 4 [(2, 34), (2, l1), (0, l2), (3, 0)] [(0, 0), (0, l2), (2, l1), (2, 34)] (H) (G) (wZ L xs) (M := tbM171) rfl rfl trivial ?_
  refine e3_call (o := 0) (k := 172) (M2 := tbM172) (f1 := (2 + 2 * 9)) (w1 := (42 + 44 * 9)) (as := [(2, 34), (2, l1), (0, l2), (0, 0)]) (rest := []) (M := tbM171) rfl rfl rfl trivial (Nat.le_of_ble_eq_true rfl) (Nat.le_of_ble_eq_true rfl) (Nat.le_of_ble_eq_true rfl) ?_
  refine e3_mono (sS_valueAt L xs 9 _ _ _ _ _ _ h) (fun r H1 G2 h => ?_)
  obtain ⟨x3, rfl, h⟩ := h
  change e3_Ev _ _ _ _ 7 [(2, 34), (2, l1), (0, l2), (3, 0)] [(0, x3)] H1 G2 _
  refine e3_K [0, 0, 4, 0] 13 [(2, 34), (2, l1), (0, l2), (0, x3)] [(0, x3), (2, 26)] (H1) (G2) (wZ L xs) (M := tbM171) rfl rfl ⟨trivial, trivial⟩ ?_
  refine e3_call (o := 0) (k := 160) (M2 := tbM160) (f1 := 0) (w1 := 0) (as := [(2, 26), (0, x3)]) (rest := []) (M := tbM171) rfl rfl rfl trivial (Nat.le_of_ble_eq_true rfl) (Nat.le_of_ble_eq_true rfl) (Nat.le_of_ble_eq_true rfl) ?_
  refine e3_mono (sL_has L xs _ _ _ _ h) (fun r H4 G5 h => ?_)
  obtain ⟨x6, rfl, h⟩ := h
  change e3_Ev _ _ _ _ 16 [(2, 34), (2, l1), (0, l2), (0, x3)] [(0, x6)] H4 G5 _
  refine e3_br (M := tbM171) rfl rfl rfl Iff.rfl (fun hc => ?_) (fun hc => ?_)
  · replace h := h.1 hc
    refine e3_K [2] 34 [(2, 34), (2, l1), (0, l2), (0, x3)] [(1, ((-1 : Int64).toInt))] (H4) (G5) (wZ L xs) (M := tbM171) rfl rfl ⟨trivial, trivial⟩ ?_
    refine e3_fgt [false, false, false, false] ?_
    exact sS_labelAt_34 L xs Q _ _ _ h
  · replace h := h.2 hc
    obtain ⟨o7, h⟩ := h
    refine e3_K [0, 4, 4, 0, 2, 0] 34 [(2, 34), (2, l1), (0, l2), (0, x3)] [(1, (H4 28 x3))] (H4) (G5) (wZ L xs) (M := tbM171) rfl rfl ⟨trivial, trivial, o7, trivial⟩ ?_
    refine e3_fgt [false, false, false, false] ?_
    exact sS_labelAt_34 L xs Q _ _ _ h
/-- LetterPost$Tree.leads(IJJ)Z -/
def wE_leads_59 (Q : Int → e3_H → e3_G → Prop) (s0 : Int) (H : e3_H) (G : e3_G) : Prop :=
  ((s0 : Int) = 0 ∨ s0 = 1) ∧ Q s0 H G
def wE_leads_54 (Q : Int → e3_H → e3_G → Prop)  (H : e3_H) (G : e3_G) : Prop :=
  (wE_leads_59 Q 1 H G)
def wE_leads_39 (Q : Int → e3_H → e3_G → Prop) (s0 : Int) (H : e3_H) (G : e3_G) : Prop :=
  ((s0 : Int) = 0 ∨ s0 = 1) ∧ Q s0 H G
def wE_leads_71 (Q : Int → e3_H → e3_G → Prop) (s0 : Int) (H : e3_H) (G : e3_G) : Prop :=
  ((s0 : Int) = 0 ∨ s0 = 1) ∧ Q s0 H G
def wE_leads (Q : Int → e3_H → e3_G → Prop) (l0 : Int) (l1 : Int) (l3 : Int) (H : e3_H) (G : e3_G) : Prop :=
  (((l0 : Int) = 5 → (((l3 : Int) = l1 → (wE_leads_54 Q H G)) ∧ (¬ ((l3 : Int) = l1) → (((l1 : Int) = ((-1 : Int64).toInt) → (wE_leads_54 Q H G)) ∧ (¬ ((l1 : Int) = ((-1 : Int64).toInt)) → (wE_leads_59 Q 0 H G)))))) ∧ ((l0 : Int) = 6 → (((l1 : Int) < l3 → (wE_leads_39 Q 0 H G)) ∧ (¬ ((l1 : Int) < l3) → (wE_leads_39 Q 1 H G)))) ∧ (¬ (l0 : Int) = 5 ∧ ¬ (l0 : Int) = 6 → (((l3 : Int) = l1 → (wE_leads_71 Q 1 H G)) ∧ (¬ ((l3 : Int) = l1) → (wE_leads_71 Q 0 H G)))))
set_option maxRecDepth 100000 in
set_option maxHeartbeats 4000000 in
theorem sE_leads_59 (L : Nat) (xs : Nat → Int32) (Q : Int → e3_H → e3_G → Prop) (s0 : Int) (H : e3_H) (G : e3_G) (h : wE_leads_59 Q s0 H G) : e3_Ev (wB L xs) 0 0 174 59 [(3, 0), (3, 0), (3, 0), (3, 0), (3, 0)] [(0, s0)] H G (e3_q0 Q) := by
  unfold wE_leads_59 at h
  exact e3_retb (M := tbM174) rfl rfl rfl h.1 ⟨_, rfl, h.2⟩
set_option maxRecDepth 100000 in
set_option maxHeartbeats 4000000 in
theorem sE_leads_54 (L : Nat) (xs : Nat → Int32) (Q : Int → e3_H → e3_G → Prop)  (H : e3_H) (G : e3_G) (h : wE_leads_54 Q  H G) : e3_Ev (wB L xs) 0 0 174 54 [(3, 0), (3, 0), (3, 0), (3, 0), (3, 0)] [] H G (e3_q0 Q) := by
  unfold wE_leads_54 at h
  refine e3_K [0, 0] 59 [(3, 0), (3, 0), (3, 0), (3, 0), (3, 0)] [(0, 1)] (H) (G) (wZ L xs) (M := tbM174) rfl rfl trivial ?_
  exact sE_leads_59 L xs Q _ _ _ h
set_option maxRecDepth 100000 in
set_option maxHeartbeats 4000000 in
theorem sE_leads_39 (L : Nat) (xs : Nat → Int32) (Q : Int → e3_H → e3_G → Prop) (s0 : Int) (H : e3_H) (G : e3_G) (h : wE_leads_39 Q s0 H G) : e3_Ev (wB L xs) 0 0 174 39 [(3, 0), (3, 0), (3, 0), (3, 0), (3, 0)] [(0, s0)] H G (e3_q0 Q) := by
  unfold wE_leads_39 at h
  exact e3_retb (M := tbM174) rfl rfl rfl h.1 ⟨_, rfl, h.2⟩
set_option maxRecDepth 100000 in
set_option maxHeartbeats 4000000 in
theorem sE_leads_71 (L : Nat) (xs : Nat → Int32) (Q : Int → e3_H → e3_G → Prop) (s0 : Int) (H : e3_H) (G : e3_G) (h : wE_leads_71 Q s0 H G) : e3_Ev (wB L xs) 0 0 174 71 [(3, 0), (3, 0), (3, 0), (3, 0), (3, 0)] [(0, s0)] H G (e3_q0 Q) := by
  unfold wE_leads_71 at h
  exact e3_retb (M := tbM174) rfl rfl rfl h.1 ⟨_, rfl, h.2⟩
set_option maxRecDepth 100000 in
set_option maxHeartbeats 4000000 in
theorem sE_leads (L : Nat) (xs : Nat → Int32) (Q : Int → e3_H → e3_G → Prop) (l0 : Int) (l1 : Int) (l3 : Int) (H : e3_H) (G : e3_G) (h : wE_leads Q l0 l1 l3 H G) : e3_Ev (wB L xs) 0 0 174 0 [(0, l0), (1, l1), (3, 0), (1, l3), (3, 0)] [] H G (e3_q0 Q) := by
  unfold wE_leads at h
  refine e3_K [0] 1 [(0, l0), (1, l1), (3, 0), (1, l3), (3, 0)] [(0, l0)] (H) (G) (wZ L xs) (M := tbM174) rfl rfl trivial ?_
  by_cases hc0 : (l0 : Int) = 5
  · replace h := h.1 hc0
    refine e3_sw (M := tbM174) rfl rfl hc0 rfl ?_
    refine e3_K [0, 0, 0] 43 [(0, l0), (1, l1), (3, 0), (1, l3), (3, 0)] [(0, (e3_cmp l3 l1))] (H) (G) (wZ L xs) (M := tbM174) rfl rfl trivial ?_
    refine e3_br (M := tbM174) rfl rfl rfl e3_cmp_eq (fun hc => ?_) (fun hc => ?_)
    · replace h := h.1 hc
      refine e3_fgt [false, false, false, false, false] ?_
      exact sE_leads_54 L xs Q _ _ h
    · replace h := h.2 hc
      refine e3_K [0, 2, 0] 51 [(0, l0), (1, l1), (3, 0), (1, l3), (3, 0)] [(0, (e3_cmp l1 ((-1 : Int64).toInt)))] (H) (G) (wZ L xs) (M := tbM174) rfl rfl ⟨trivial, trivial⟩ ?_
      refine e3_br (M := tbM174) rfl rfl rfl e3_cmp_eq (fun hc => ?_) (fun hc => ?_)
      · replace h := h.1 hc
        refine e3_fgt [false, false, false, false, false] ?_
        exact sE_leads_54 L xs Q _ _ h
      · replace h := h.2 hc
        refine e3_K [0] 59 [(0, l0), (1, l1), (3, 0), (1, l3), (3, 0)] [(0, 0)] (H) (G) (wZ L xs) (M := tbM174) rfl rfl trivial ?_
        refine e3_fgt [false, false, false, false, false] ?_
        exact sE_leads_59 L xs Q _ _ _ h
  replace h := h.2
  by_cases hc1 : (l0 : Int) = 6
  · replace h := h.1 hc1
    refine e3_sw (M := tbM174) rfl rfl hc1 rfl ?_
    refine e3_K [0, 0, 0] 31 [(0, l0), (1, l1), (3, 0), (1, l3), (3, 0)] [(0, (e3_cmp l3 l1))] (H) (G) (wZ L xs) (M := tbM174) rfl rfl trivial ?_
    refine e3_br (M := tbM174) rfl rfl rfl e3_cmp_gt (fun hc => ?_) (fun hc => ?_)
    · replace h := h.1 hc
      refine e3_K [0] 39 [(0, l0), (1, l1), (3, 0), (1, l3), (3, 0)] [(0, 0)] (H) (G) (wZ L xs) (M := tbM174) rfl rfl trivial ?_
      refine e3_fgt [false, false, false, false, false] ?_
      exact sE_leads_39 L xs Q _ _ _ h
    · replace h := h.2 hc
      refine e3_K [0, 0] 39 [(0, l0), (1, l1), (3, 0), (1, l3), (3, 0)] [(0, 1)] (H) (G) (wZ L xs) (M := tbM174) rfl rfl trivial ?_
      refine e3_fgt [false, false, false, false, false] ?_
      exact sE_leads_39 L xs Q _ _ _ h
  replace h := h.2
  replace h := h ⟨hc0, hc1⟩
  refine e3_sw (M := tbM174) rfl rfl rfl ((e3_swdl rfl (fun q hq => (by
      have hq : q ∈ ([(5, 39), (6, 27)] : List (Int × Int)) := hq
      simp only [List.mem_cons, List.not_mem_nil, or_false] at hq
      rcases hq with rfl | rfl
      all_goals (intro hz; simp only at hz; omega)))).trans rfl) ?_
  refine e3_K [0, 0, 0] 63 [(0, l0), (1, l1), (3, 0), (1, l3), (3, 0)] [(0, (e3_cmp l3 l1))] (H) (G) (wZ L xs) (M := tbM174) rfl rfl trivial ?_
  refine e3_br (M := tbM174) rfl rfl rfl e3_cmp_eq (fun hc => ?_) (fun hc => ?_)
  · replace h := h.1 hc
    refine e3_K [0, 0] 71 [(0, l0), (1, l1), (3, 0), (1, l3), (3, 0)] [(0, 1)] (H) (G) (wZ L xs) (M := tbM174) rfl rfl trivial ?_
    refine e3_fgt [false, false, false, false, false] ?_
    exact sE_leads_71 L xs Q _ _ _ h
  · replace h := h.2 hc
    refine e3_K [0] 71 [(0, l0), (1, l1), (3, 0), (1, l3), (3, 0)] [(0, 0)] (H) (G) (wZ L xs) (M := tbM174) rfl rfl trivial ?_
    refine e3_fgt [false, false, false, false, false] ?_
    exact sE_leads_71 L xs Q _ _ _ h
/-- LetterPost$Tree.follow(IJ)I -/
def wE_follow_66 (Q : Int → e3_H → e3_G → Prop)  (H : e3_H) (G : e3_G) : Prop :=
  Q (-1) H G
def wE_follow_8 (Q : Int → e3_H → e3_G → Prop) : Nat → Int → Int → Int → Int → Int → e3_H → e3_G → Prop
  | 0, _, _, _, _, _, _, _ => False
  | nn + 1, l0, l1, l2, l4, l5, H, G => (e3_ob G 5 l0) ∧ (e3_oa G 0 (H l0 7) l1) ∧ (((l5 : Int) < (H (H l0 7) l1) → (e3_ob G 5 l0) ∧ (wE_has (fun x5 H3 G4 => (((x5 : Int) = 0 → (wE_follow_66 Q H3 G4)) ∧ (¬ ((x5 : Int) = 0) → (e3_ob G4 5 l0) ∧ (e3_oa G4 0 (H3 l0 4) l1) ∧ (e3_ob G4 5 l0) ∧ (e3_oa G4 1 (H3 l0 9) l4) ∧ (wE_leads (fun x12 H10 G11 => (((x12 : Int) = 0 → (e3_ob G11 5 l0) ∧ (e3_oa G11 0 (H10 l0 8) l4) ∧ (wE_follow_8 Q nn l0 l1 l2 (H10 (H10 l0 8) l4) (e3_w32 (l5 + 1)) H10 G11)) ∧ (¬ ((x12 : Int) = 0) → Q l4 H10 G11))) (H3 (H3 l0 4) l1) (H3 (H3 l0 9) l4) l2 H3 G4)))) l0 l4 H G)) ∧ (¬ ((l5 : Int) < (H (H l0 7) l1)) → (wE_follow_66 Q H G)))
def wE_follow (Q : Int → e3_H → e3_G → Prop) (l0 : Int) (l1 : Int) (l2 : Int) (H : e3_H) (G : e3_G) : Prop :=
  (∃ n, wE_follow_8 Q n l0 l1 l2 (e3_w32 (l1 + 1)) 0 H G)
set_option maxRecDepth 100000 in
set_option maxHeartbeats 4000000 in
theorem sE_follow_66 (L : Nat) (xs : Nat → Int32) (Q : Int → e3_H → e3_G → Prop)  (H : e3_H) (G : e3_G) (h : wE_follow_66 Q  H G) : e3_Ev (wB L xs) 1 24 173 66 [(3, 0), (3, 0), (3, 0), (3, 0), (3, 0), (3, 0)] [] H G (e3_q0 Q) := by
  unfold wE_follow_66 at h
  refine e3_K [0] 67 [(3, 0), (3, 0), (3, 0), (3, 0), (3, 0), (3, 0)] [(0, (-1))] (H) (G) (wZ L xs) (M := tbM173) rfl rfl trivial ?_
  exact e3_reti (M := tbM173) rfl rfl rfl ⟨_, rfl, h⟩
set_option maxRecDepth 100000 in
set_option maxHeartbeats 4000000 in
theorem sE_follow_8 (L : Nat) (xs : Nat → Int32) (Q : Int → e3_H → e3_G → Prop) : ∀ (nl : Nat) (l0 : Int) (l1 : Int) (l2 : Int) (l4 : Int) (l5 : Int) (H : e3_H) (G : e3_G), wE_follow_8 Q nl l0 l1 l2 l4 l5 H G → e3_Ev (wB L xs) 1 24 173 8 [(2, l0), (0, l1), (1, l2), (3, 0), (0, l4), (0, l5)] [] H G (e3_q0 Q) := by
  intro nl
  induction nl with
  | zero => intro l0 l1 l2 l4 l5 H G h; exact h.elim
  | succ nn ih =>
    intro l0 l1 l2 l4 l5 H G h
    have h : (e3_ob G 5 l0) ∧ (e3_oa G 0 (H l0 7) l1) ∧ (((l5 : Int) < (H (H l0 7) l1) → (e3_ob G 5 l0) ∧ (wE_has (fun x5 H3 G4 => (((x5 : Int) = 0 → (wE_follow_66 Q H3 G4)) ∧ (¬ ((x5 : Int) = 0) → (e3_ob G4 5 l0) ∧ (e3_oa G4 0 (H3 l0 4) l1) ∧ (e3_ob G4 5 l0) ∧ (e3_oa G4 1 (H3 l0 9) l4) ∧ (wE_leads (fun x12 H10 G11 => (((x12 : Int) = 0 → (e3_ob G11 5 l0) ∧ (e3_oa G11 0 (H10 l0 8) l4) ∧ (wE_follow_8 Q nn l0 l1 l2 (H10 (H10 l0 8) l4) (e3_w32 (l5 + 1)) H10 G11)) ∧ (¬ ((x12 : Int) = 0) → Q l4 H10 G11))) (H3 (H3 l0 4) l1) (H3 (H3 l0 9) l4) l2 H3 G4)))) l0 l4 H G)) ∧ (¬ ((l5 : Int) < (H (H l0 7) l1)) → (wE_follow_66 Q H G))) := h
    obtain ⟨o1, o2, h⟩ := h
    refine e3_K [0, 0, 3, 0, 3] 16 [(2, l0), (0, l1), (1, l2), (3, 0), (0, l4), (0, l5)] [(0, (H (H l0 7) l1)), (0, l5)] (H) (G) (wZ L xs) (M := tbM173) rfl rfl ⟨o1, o2, trivial⟩ ?_
    refine e3_br (M := tbM173) rfl rfl rfl Iff.rfl (fun hc => ?_) (fun hc => ?_)
    · replace h := h.1 hc
      refine e3_K [0, 0] 22 [(2, l0), (0, l1), (1, l2), (3, 0), (0, l4), (0, l5)] [(0, l4), (2, l0)] (H) (G) (wZ L xs) (M := tbM173) rfl rfl trivial ?_
      obtain ⟨oz, h⟩ := h
      refine e3_call (o := 1) (k := 125) (M2 := tbM125) (f1 := 0) (w1 := 0) (as := [(2, l0), (0, l4)]) (rest := []) (M := tbM173) rfl rfl rfl oz (Nat.le_of_ble_eq_true rfl) (Nat.le_of_ble_eq_true rfl) (Nat.le_of_ble_eq_true rfl) ?_
      refine e3_mono (sE_has L xs _ _ _ _ _ h) (fun r H3 G4 h => ?_)
      obtain ⟨x5, rfl, h⟩ := h
      change e3_Ev _ _ _ _ 25 [(2, l0), (0, l1), (1, l2), (3, 0), (0, l4), (0, l5)] [(0, x5)] H3 G4 _
      refine e3_br (M := tbM173) rfl rfl rfl Iff.rfl (fun hc => ?_) (fun hc => ?_)
      · replace h := h.1 hc
        refine e3_fgt [false, false, false, false, false, false] ?_
        exact sE_follow_66 L xs Q _ _ h
      · replace h := h.2 hc
        obtain ⟨o6, o7, o8, o9, h⟩ := h
        refine e3_K [0, 3, 0, 3, 0, 3, 0, 4, 0] 42 [(2, l0), (0, l1), (1, l2), (3, 0), (0, l4), (0, l5)] [(1, l2), (1, (H3 (H3 l0 9) l4)), (0, (H3 (H3 l0 4) l1))] (H3) (G4) (wZ L xs) (M := tbM173) rfl rfl ⟨o6, o7, o8, o9, trivial⟩ ?_
        refine e3_call (o := 0) (k := 174) (M2 := tbM174) (f1 := 0) (w1 := 0) (as := [(0, (H3 (H3 l0 4) l1)), (1, (H3 (H3 l0 9) l4)), (1, l2)]) (rest := []) (M := tbM173) rfl rfl rfl trivial (Nat.le_of_ble_eq_true rfl) (Nat.le_of_ble_eq_true rfl) (Nat.le_of_ble_eq_true rfl) ?_
        refine e3_mono (sE_leads L xs _ _ _ _ _ _ h) (fun r H10 G11 h => ?_)
        obtain ⟨x12, rfl, h⟩ := h
        change e3_Ev _ _ _ _ 45 [(2, l0), (0, l1), (1, l2), (3, 0), (0, l4), (0, l5)] [(0, x12)] H10 G11 _
        refine e3_br (M := tbM173) rfl rfl rfl Iff.rfl (fun hc => ?_) (fun hc => ?_)
        · replace h := h.1 hc
          obtain ⟨o13, o14, h⟩ := h
          refine e3_K [0, 3, 0, 3, 0, 0, 0] 8 [(2, l0), (0, l1), (1, l2), (3, 0), (0, (H10 (H10 l0 8) l4)), (0, (e3_w32 (l5 + 1)))] [] (H10) (G11) (wZ L xs) (M := tbM173) rfl rfl ⟨o13, o14, trivial⟩ ?_
          exact ih _ _ _ _ _ _ _ h
        · replace h := h.2 hc
          refine e3_K [0] 50 [(2, l0), (0, l1), (1, l2), (3, 0), (0, l4), (0, l5)] [(0, l4)] (H10) (G11) (wZ L xs) (M := tbM173) rfl rfl trivial ?_
          exact e3_reti (M := tbM173) rfl rfl rfl ⟨_, rfl, h⟩
    · replace h := h.2 hc
      refine e3_fgt [false, false, false, false, false, false] ?_
      exact sE_follow_66 L xs Q _ _ h
set_option maxRecDepth 100000 in
set_option maxHeartbeats 4000000 in
theorem sE_follow (L : Nat) (xs : Nat → Int32) (Q : Int → e3_H → e3_G → Prop) (l0 : Int) (l1 : Int) (l2 : Int) (H : e3_H) (G : e3_G) (h : wE_follow Q l0 l1 l2 H G) : e3_Ev (wB L xs) 1 24 173 0 [(2, l0), (0, l1), (1, l2), (3, 0), (3, 0), (3, 0)] [] H G (e3_q0 Q) := by
  unfold wE_follow at h
  refine e3_K [0, 0, 0, 0, 0, 0] 8 [(2, l0), (0, l1), (1, l2), (3, 0), (0, (e3_w32 (l1 + 1))), (0, 0)] [] (H) (G) (wZ L xs) (M := tbM173) rfl rfl trivial ?_
  obtain ⟨nl, h⟩ := h
  exact sE_follow_8 L xs Q nl _ _ _ _ _ _ _ h
/-- LetterPost$Sorter.end(II)V -/
def wS_end (Q : e3_H → e3_G → Prop) (l1 : Int) (l2 : Int) (H : e3_H) (G : e3_G) : Prop :=
  ∀ H1 : e3_H, H1 = e3_up H 37 0 l1 → ∀ H2 : e3_H, H2 = e3_up H1 37 6 l2 → Q H2 G
set_option maxRecDepth 100000 in
set_option maxHeartbeats 4000000 in
theorem sS_end (L : Nat) (xs : Nat → Int32) (Q : e3_H → e3_G → Prop) (l1 : Int) (l2 : Int) (H : e3_H) (G : e3_G) (h : wS_end Q l1 l2 H G) : e3_Ev (wB L xs) 0 0 175 0 [(2, 34), (0, l1), (0, l2)] [] H G (e3_qv Q) := by
  unfold wS_end at h
  refine e3_K [0, 4, 0, 0, 2] 7 [(2, 34), (0, l1), (0, l2)] [] (e3_up H 37 0 l1) (G) (wZ L xs) (M := tbM175) rfl rfl ⟨trivial, ⟨by decide, by decide⟩, trivial⟩ ?_
  generalize hH1 : (e3_up H 37 0 l1) = H1
  replace h := h H1 hH1.symm
  refine e3_K [0, 4, 0, 0, 2] 15 [(2, 34), (0, l1), (0, l2)] [] (e3_up H1 37 6 l2) (G) (wZ L xs) (M := tbM175) rfl rfl ⟨trivial, ⟨by decide, by decide⟩, trivial⟩ ?_
  generalize hH2 : (e3_up H1 37 6 l2) = H2
  replace h := h H2 hH2.symm
  exact e3_retv (M := tbM175) rfl rfl rfl ⟨rfl, h⟩
/-- LetterPost$Sorter.holdRow(LLetterPost$Function;LLetterPost$Row;)V -/
def wS_holdRow_46 (Q : e3_H → e3_G → Prop)  (H : e3_H) (G : e3_G) : Prop :=
  Q H G
def wS_holdRow_2 (Q : e3_H → e3_G → Prop) : Nat → Int → Int → Int → e3_H → e3_G → Prop
  | 0, _, _, _, _, _ => False
  | nn + 1, l1, l2, l3, H, G => (e3_ob G 11 l2) ∧ (e3_ob G 9 (H l2 0)) ∧ (((l3 : Int) < (H (H l2 0) 4) → (((l3 : Int) < 8 → (e3_ob G 11 l2) ∧ (e3_oa G 0 (H l2 4) l3) ∧ (wS_valueAt 9 l1 (H (H l2 4) l3) 0 H G (fun x7 H5 G6 => ((0 : Int) ≤ l3 ∧ (l3 : Int) < 8) ∧ ∀ H8 : e3_H, H8 = e3_up H5 36 l3 x7 → (wS_holdRow_2 Q nn l1 l2 (e3_w32 (l3 + 1)) H8 G6)))) ∧ (¬ ((l3 : Int) < 8) → (wS_holdRow_46 Q H G)))) ∧ (¬ ((l3 : Int) < (H (H l2 0) 4)) → (wS_holdRow_46 Q H G)))
def wS_holdRow (Q : e3_H → e3_G → Prop) (l1 : Int) (l2 : Int) (H : e3_H) (G : e3_G) : Prop :=
  (∃ n, wS_holdRow_2 Q n l1 l2 0 H G)
set_option maxRecDepth 100000 in
set_option maxHeartbeats 4000000 in
theorem sS_holdRow_46 (L : Nat) (xs : Nat → Int32) (Q : e3_H → e3_G → Prop)  (H : e3_H) (G : e3_G) (h : wS_holdRow_46 Q  H G) : e3_Ev (wB L xs) 21 463 176 46 [(3, 0), (3, 0), (3, 0), (3, 0)] [] H G (e3_qv Q) := by
  unfold wS_holdRow_46 at h
  exact e3_retv (M := tbM176) rfl rfl rfl ⟨rfl, h⟩
set_option maxRecDepth 100000 in
set_option maxHeartbeats 4000000 in
theorem sS_holdRow_2 (L : Nat) (xs : Nat → Int32) (Q : e3_H → e3_G → Prop) : ∀ (nl : Nat) (l1 : Int) (l2 : Int) (l3 : Int) (H : e3_H) (G : e3_G), wS_holdRow_2 Q nl l1 l2 l3 H G → e3_Ev (wB L xs) 21 463 176 2 [(2, 34), (2, l1), (2, l2), (0, l3)] [] H G (e3_qv Q) := by
  intro nl
  induction nl with
  | zero => intro l1 l2 l3 H G h; exact h.elim
  | succ nn ih =>
    intro l1 l2 l3 H G h
    have h : (e3_ob G 11 l2) ∧ (e3_ob G 9 (H l2 0)) ∧ (((l3 : Int) < (H (H l2 0) 4) → (((l3 : Int) < 8 → (e3_ob G 11 l2) ∧ (e3_oa G 0 (H l2 4) l3) ∧ (wS_valueAt 9 l1 (H (H l2 4) l3) 0 H G (fun x7 H5 G6 => ((0 : Int) ≤ l3 ∧ (l3 : Int) < 8) ∧ ∀ H8 : e3_H, H8 = e3_up H5 36 l3 x7 → (wS_holdRow_2 Q nn l1 l2 (e3_w32 (l3 + 1)) H8 G6)))) ∧ (¬ ((l3 : Int) < 8) → (wS_holdRow_46 Q H G)))) ∧ (¬ ((l3 : Int) < (H (H l2 0) 4)) → (wS_holdRow_46 Q H G))) := h
    obtain ⟨o1, o2, h⟩ := h
    refine e3_K [0, 0, 3, 3] 10 [(2, 34), (2, l1), (2, l2), (0, l3)] [(0, (H (H l2 0) 4)), (0, l3)] (H) (G) (wZ L xs) (M := tbM176) rfl rfl ⟨o1, o2, trivial⟩ ?_
    refine e3_br (M := tbM176) rfl rfl rfl Iff.rfl (fun hc => ?_) (fun hc => ?_)
    · replace h := h.1 hc
      refine e3_K [0, 0, 4, 2] 19 [(2, 34), (2, l1), (2, l2), (0, l3)] [(0, 8), (0, l3)] (H) (G) (wZ L xs) (M := tbM176) rfl rfl ⟨trivial, (by decide), trivial⟩ ?_
      refine e3_br (M := tbM176) rfl rfl rfl Iff.rfl (fun hc => ?_) (fun hc => ?_)
      · replace h := h.1 hc
        obtain ⟨o3, o4, h⟩ := h
        refine e3_K [0, 4, 0, 0, 0, 0, 3, 0, 3, 0] 36 [(2, 34), (2, l1), (2, l2), (0, l3)] [(0, 0), (0, (H (H l2 4) l3)), (2, l1), (2, 34), (0, l3), (2, 36)] (H) (G) (wZ L xs) (M := tbM176) rfl rfl ⟨trivial, o3, o4, trivial⟩ ?_
        refine e3_call (o := 0) (k := 172) (M2 := tbM172) (f1 := (2 + 2 * 9)) (w1 := (42 + 44 * 9)) (as := [(2, 34), (2, l1), (0, (H (H l2 4) l3)), (0, 0)]) (rest := [(0, l3), (2, 36)]) (M := tbM176) rfl rfl rfl trivial (Nat.le_of_ble_eq_true rfl) (Nat.le_of_ble_eq_true rfl) (Nat.le_of_ble_eq_true rfl) ?_
        refine e3_mono (sS_valueAt L xs 9 _ _ _ _ _ _ h) (fun r H5 G6 h => ?_)
        obtain ⟨x7, rfl, h⟩ := h
        change e3_Ev _ _ _ _ 39 [(2, 34), (2, l1), (2, l2), (0, l3)] [(0, x7), (0, l3), (2, 36)] H5 G6 _
        obtain ⟨o9, h⟩ := h
        refine e3_K [2] 40 [(2, 34), (2, l1), (2, l2), (0, l3)] [] (e3_up H5 36 l3 x7) (G6) (wZ L xs) (M := tbM176) rfl rfl ⟨o9, trivial⟩ ?_
        generalize hH8 : (e3_up H5 36 l3 x7) = H8
        replace h := h H8 hH8.symm
        refine e3_K [0, 0] 2 [(2, 34), (2, l1), (2, l2), (0, (e3_w32 (l3 + 1)))] [] (H8) (G6) (wZ L xs) (M := tbM176) rfl rfl trivial ?_
        exact ih _ _ _ _ _ h
      · replace h := h.2 hc
        refine e3_fgt [false, false, false, false] ?_
        exact sS_holdRow_46 L xs Q _ _ h
    · replace h := h.2 hc
      refine e3_fgt [false, false, false, false] ?_
      exact sS_holdRow_46 L xs Q _ _ h
set_option maxRecDepth 100000 in
set_option maxHeartbeats 4000000 in
theorem sS_holdRow (L : Nat) (xs : Nat → Int32) (Q : e3_H → e3_G → Prop) (l1 : Int) (l2 : Int) (H : e3_H) (G : e3_G) (h : wS_holdRow Q l1 l2 H G) : e3_Ev (wB L xs) 21 463 176 0 [(2, 34), (2, l1), (2, l2), (3, 0)] [] H G (e3_qv Q) := by
  unfold wS_holdRow at h
  refine e3_K [0, 0] 2 [(2, 34), (2, l1), (2, l2), (0, 0)] [] (H) (G) (wZ L xs) (M := tbM176) rfl rfl trivial ?_
  obtain ⟨nl, h⟩ := h
  exact sS_holdRow_2 L xs Q nl _ _ _ _ _ h
/-- LetterPost$Sorter.heldAt(I)I -/
def wS_heldAt_24 (Q : Int → e3_H → e3_G → Prop) (s0 : Int) (H : e3_H) (G : e3_G) : Prop :=
  Q s0 H G
def wS_heldAt_22 (Q : Int → e3_H → e3_G → Prop)  (H : e3_H) (G : e3_G) : Prop :=
  (wS_heldAt_24 Q (-4) H G)
def wS_heldAt (Q : Int → e3_H → e3_G → Prop) (l1 : Int) (H : e3_H) (G : e3_G) : Prop :=
  (((l1 : Int) < 0 → (wS_heldAt_22 Q H G)) ∧ (¬ ((l1 : Int) < 0) → (((l1 : Int) < 8 → ((0 : Int) ≤ l1 ∧ (l1 : Int) < 8) ∧ (wS_heldAt_24 Q (H 36 l1) H G)) ∧ (¬ ((l1 : Int) < 8) → (wS_heldAt_22 Q H G)))))
set_option maxRecDepth 100000 in
set_option maxHeartbeats 4000000 in
theorem sS_heldAt_24 (L : Nat) (xs : Nat → Int32) (Q : Int → e3_H → e3_G → Prop) (s0 : Int) (H : e3_H) (G : e3_G) (h : wS_heldAt_24 Q s0 H G) : e3_Ev (wB L xs) 0 0 181 24 [(3, 0), (3, 0)] [(0, s0)] H G (e3_q0 Q) := by
  unfold wS_heldAt_24 at h
  exact e3_reti (M := tbM181) rfl rfl rfl ⟨_, rfl, h⟩
set_option maxRecDepth 100000 in
set_option maxHeartbeats 4000000 in
theorem sS_heldAt_22 (L : Nat) (xs : Nat → Int32) (Q : Int → e3_H → e3_G → Prop)  (H : e3_H) (G : e3_G) (h : wS_heldAt_22 Q  H G) : e3_Ev (wB L xs) 0 0 181 22 [(3, 0), (3, 0)] [] H G (e3_q0 Q) := by
  unfold wS_heldAt_22 at h
  refine e3_K [0] 24 [(3, 0), (3, 0)] [(0, (-4))] (H) (G) (wZ L xs) (M := tbM181) rfl rfl trivial ?_
  exact sS_heldAt_24 L xs Q _ _ _ h
set_option maxRecDepth 100000 in
set_option maxHeartbeats 4000000 in
theorem sS_heldAt (L : Nat) (xs : Nat → Int32) (Q : Int → e3_H → e3_G → Prop) (l1 : Int) (H : e3_H) (G : e3_G) (h : wS_heldAt Q l1 H G) : e3_Ev (wB L xs) 0 0 181 0 [(2, 34), (0, l1)] [] H G (e3_q0 Q) := by
  unfold wS_heldAt at h
  refine e3_K [0] 1 [(2, 34), (0, l1)] [(0, l1)] (H) (G) (wZ L xs) (M := tbM181) rfl rfl trivial ?_
  refine e3_br (M := tbM181) rfl rfl rfl Iff.rfl (fun hc => ?_) (fun hc => ?_)
  · replace h := h.1 hc
    refine e3_fgt [false, false] ?_
    exact sS_heldAt_22 L xs Q _ _ h
  · replace h := h.2 hc
    refine e3_K [0, 0, 4, 2] 10 [(2, 34), (0, l1)] [(0, 8), (0, l1)] (H) (G) (wZ L xs) (M := tbM181) rfl rfl ⟨trivial, (by decide), trivial⟩ ?_
    refine e3_br (M := tbM181) rfl rfl rfl Iff.rfl (fun hc => ?_) (fun hc => ?_)
    · replace h := h.1 hc
      obtain ⟨o1, h⟩ := h
      refine e3_K [0, 4, 0, 2, 0] 24 [(2, 34), (0, l1)] [(0, (H 36 l1))] (H) (G) (wZ L xs) (M := tbM181) rfl rfl ⟨trivial, o1, trivial⟩ ?_
      refine e3_fgt [false, false] ?_
      exact sS_heldAt_24 L xs Q _ _ _ h
    · replace h := h.2 hc
      refine e3_fgt [false, false] ?_
      exact sS_heldAt_22 L xs Q _ _ h
/-- LetterPost$Sorter.numberHeld(I)I -/
def wS_numberHeld_31 (Q : Int → e3_H → e3_G → Prop) (s0 : Int) (H : e3_H) (G : e3_G) : Prop :=
  Q s0 H G
def wS_numberHeld (Q : Int → e3_H → e3_G → Prop) (l1 : Int) (H : e3_H) (G : e3_G) : Prop :=
  (wS_heldAt (fun x3 H1 G2 => (wL_has (fun x6 H4 G5 => (((x6 : Int) = 0 → (wS_numberHeld_31 Q 0 H4 G5)) ∧ (¬ ((x6 : Int) = 0) → ((0 : Int) ≤ x3 ∧ (x3 : Int) < 160) ∧ (wS_numberHeld_31 Q (e3_w32 (H4 28 x3)) H4 G5)))) x3 H1 G2)) l1 H G)
set_option maxRecDepth 100000 in
set_option maxHeartbeats 4000000 in
theorem sS_numberHeld_31 (L : Nat) (xs : Nat → Int32) (Q : Int → e3_H → e3_G → Prop) (s0 : Int) (H : e3_H) (G : e3_G) (h : wS_numberHeld_31 Q s0 H G) : e3_Ev (wB L xs) 1 21 180 31 [(3, 0), (3, 0), (3, 0)] [(0, s0)] H G (e3_q0 Q) := by
  unfold wS_numberHeld_31 at h
  exact e3_reti (M := tbM180) rfl rfl rfl ⟨_, rfl, h⟩
set_option maxRecDepth 100000 in
set_option maxHeartbeats 4000000 in
theorem sS_numberHeld (L : Nat) (xs : Nat → Int32) (Q : Int → e3_H → e3_G → Prop) (l1 : Int) (H : e3_H) (G : e3_G) (h : wS_numberHeld Q l1 H G) : e3_Ev (wB L xs) 1 21 180 0 [(2, 34), (0, l1), (3, 0)] [] H G (e3_q0 Q) := by
  unfold wS_numberHeld at h
  refine e3_K [0, 0] 2 [(2, 34), (0, l1), (3, 0)] [(0, l1), (2, 34)] (H) (G) (wZ L xs) (M := tbM180) rfl rfl trivial ?_
  refine e3_call (o := 0) (k := 181) (M2 := tbM181) (f1 := 0) (w1 := 0) (as := [(2, 34), (0, l1)]) (rest := []) (M := tbM180) rfl rfl rfl trivial (Nat.le_of_ble_eq_true rfl) (Nat.le_of_ble_eq_true rfl) (Nat.le_of_ble_eq_true rfl) ?_
  refine e3_mono (sS_heldAt L xs _ _ _ _ h) (fun r H1 G2 h => ?_)
  obtain ⟨x3, rfl, h⟩ := h
  change e3_Ev _ _ _ _ 5 [(2, 34), (0, l1), (3, 0)] [(0, x3)] H1 G2 _
  refine e3_K [0, 0, 4, 0] 11 [(2, 34), (0, l1), (0, x3)] [(0, x3), (2, 26)] (H1) (G2) (wZ L xs) (M := tbM180) rfl rfl ⟨trivial, trivial⟩ ?_
  refine e3_call (o := 0) (k := 160) (M2 := tbM160) (f1 := 0) (w1 := 0) (as := [(2, 26), (0, x3)]) (rest := []) (M := tbM180) rfl rfl rfl trivial (Nat.le_of_ble_eq_true rfl) (Nat.le_of_ble_eq_true rfl) (Nat.le_of_ble_eq_true rfl) ?_
  refine e3_mono (sL_has L xs _ _ _ _ h) (fun r H4 G5 h => ?_)
  obtain ⟨x6, rfl, h⟩ := h
  change e3_Ev _ _ _ _ 14 [(2, 34), (0, l1), (0, x3)] [(0, x6)] H4 G5 _
  refine e3_br (M := tbM180) rfl rfl rfl Iff.rfl (fun hc => ?_) (fun hc => ?_)
  · replace h := h.1 hc
    refine e3_K [0] 31 [(2, 34), (0, l1), (0, x3)] [(0, 0)] (H4) (G5) (wZ L xs) (M := tbM180) rfl rfl trivial ?_
    refine e3_fgt [false, false, false] ?_
    exact sS_numberHeld_31 L xs Q _ _ _ h
  · replace h := h.2 hc
    obtain ⟨o7, h⟩ := h
    refine e3_K [0, 4, 4, 0, 2, 0, 0] 31 [(2, 34), (0, l1), (0, x3)] [(0, (e3_w32 (H4 28 x3)))] (H4) (G5) (wZ L xs) (M := tbM180) rfl rfl ⟨trivial, trivial, o7, trivial⟩ ?_
    refine e3_fgt [false, false, false] ?_
    exact sS_numberHeld_31 L xs Q _ _ _ h
/-- LetterPost$Sorter.term(LLetterPost$Rule;I)I -/
def wS_term_28 (Q : Int → e3_H → e3_G → Prop) (s0 : Int) (H : e3_H) (G : e3_G) : Prop :=
  Q s0 H G
def wS_term (Q : Int → e3_H → e3_G → Prop) (l1 : Int) (l2 : Int) (H : e3_H) (G : e3_G) : Prop :=
  (e3_ob G 9 l1) ∧ (e3_oa G 0 (H l1 9) l2) ∧ ((((H (H l1 9) l2) : Int) < 0 → (e3_ob G 9 l1) ∧ (e3_oa G 0 (H l1 10) l2) ∧ (wS_term_28 Q (H (H l1 10) l2) H G)) ∧ (¬ (((H (H l1 9) l2) : Int) < 0) → (e3_ob G 9 l1) ∧ (e3_oa G 0 (H l1 9) l2) ∧ (wS_numberHeld (fun x9 H7 G8 => (wS_term_28 Q x9 H7 G8)) (H (H l1 9) l2) H G)))
set_option maxRecDepth 100000 in
set_option maxHeartbeats 4000000 in
theorem sS_term_28 (L : Nat) (xs : Nat → Int32) (Q : Int → e3_H → e3_G → Prop) (s0 : Int) (H : e3_H) (G : e3_G) (h : wS_term_28 Q s0 H G) : e3_Ev (wB L xs) 2 43 179 28 [(3, 0), (3, 0), (3, 0)] [(0, s0)] H G (e3_q0 Q) := by
  unfold wS_term_28 at h
  exact e3_reti (M := tbM179) rfl rfl rfl ⟨_, rfl, h⟩
set_option maxRecDepth 100000 in
set_option maxHeartbeats 4000000 in
theorem sS_term (L : Nat) (xs : Nat → Int32) (Q : Int → e3_H → e3_G → Prop) (l1 : Int) (l2 : Int) (H : e3_H) (G : e3_G) (h : wS_term Q l1 l2 H G) : e3_Ev (wB L xs) 2 43 179 0 [(2, 34), (2, l1), (0, l2)] [] H G (e3_q0 Q) := by
  unfold wS_term at h
  obtain ⟨o1, o2, h⟩ := h
  refine e3_K [0, 3, 0, 3] 6 [(2, 34), (2, l1), (0, l2)] [(0, (H (H l1 9) l2))] (H) (G) (wZ L xs) (M := tbM179) rfl rfl ⟨o1, o2, trivial⟩ ?_
  refine e3_br (M := tbM179) rfl rfl rfl Iff.rfl (fun hc => ?_) (fun hc => ?_)
  · replace h := h.1 hc
    obtain ⟨o3, o4, h⟩ := h
    refine e3_K [0, 3, 0, 3, 0] 28 [(2, 34), (2, l1), (0, l2)] [(0, (H (H l1 10) l2))] (H) (G) (wZ L xs) (M := tbM179) rfl rfl ⟨o3, o4, trivial⟩ ?_
    refine e3_fgt [false, false, false] ?_
    exact sS_term_28 L xs Q _ _ _ h
  · replace h := h.2 hc
    obtain ⟨o5, o6, h⟩ := h
    refine e3_K [0, 0, 3, 0, 3] 25 [(2, 34), (2, l1), (0, l2)] [(0, (H (H l1 9) l2)), (2, 34)] (H) (G) (wZ L xs) (M := tbM179) rfl rfl ⟨o5, o6, trivial⟩ ?_
    refine e3_call (o := 0) (k := 180) (M2 := tbM180) (f1 := 1) (w1 := 21) (as := [(2, 34), (0, (H (H l1 9) l2))]) (rest := []) (M := tbM179) rfl rfl rfl trivial (Nat.le_of_ble_eq_true rfl) (Nat.le_of_ble_eq_true rfl) (Nat.le_of_ble_eq_true rfl) ?_
    refine e3_mono (sS_numberHeld L xs _ _ _ _ h) (fun r H7 G8 h => ?_)
    obtain ⟨x9, rfl, h⟩ := h
    change e3_Ev _ _ _ _ 28 [(2, 34), (2, l1), (0, l2)] [(0, x9)] H7 G8 _
    refine e3_fgt [false, false, false] ?_
    exact sS_term_28 L xs Q _ _ _ h
/-- LetterPost$Sorter.divided(IIZ)I -/
def wS_divided_24 (Q : Int → e3_H → e3_G → Prop) (s0 : Int) (H : e3_H) (G : e3_G) : Prop :=
  Q s0 H G
def wS_divided (Q : Int → e3_H → e3_G → Prop) (l1 : Int) (l2 : Int) (l3 : Int) (H : e3_H) (G : e3_G) : Prop :=
  (((l2 : Int) = 0 → ∀ H1 : e3_H, H1 = e3_up H 34 6 1 → Q 0 H1 G) ∧ (¬ ((l2 : Int) = 0) → (((l3 : Int) = 0 → ((l2 : Int) ≠ 0) ∧ (wS_divided_24 Q (e3_rem l1 l2) H G)) ∧ (¬ ((l3 : Int) = 0) → ((l2 : Int) ≠ 0) ∧ (wS_divided_24 Q (e3_div l1 l2) H G)))))
set_option maxRecDepth 100000 in
set_option maxHeartbeats 4000000 in
theorem sS_divided_24 (L : Nat) (xs : Nat → Int32) (Q : Int → e3_H → e3_G → Prop) (s0 : Int) (H : e3_H) (G : e3_G) (h : wS_divided_24 Q s0 H G) : e3_Ev (wB L xs) 0 0 182 24 [(3, 0), (3, 0), (3, 0), (3, 0)] [(0, s0)] H G (e3_q0 Q) := by
  unfold wS_divided_24 at h
  exact e3_reti (M := tbM182) rfl rfl rfl ⟨_, rfl, h⟩
set_option maxRecDepth 100000 in
set_option maxHeartbeats 4000000 in
theorem sS_divided (L : Nat) (xs : Nat → Int32) (Q : Int → e3_H → e3_G → Prop) (l1 : Int) (l2 : Int) (l3 : Int) (H : e3_H) (G : e3_G) (h : wS_divided Q l1 l2 l3 H G) : e3_Ev (wB L xs) 0 0 182 0 [(2, 34), (0, l1), (0, l2), (0, l3)] [] H G (e3_q0 Q) := by
  unfold wS_divided at h
  refine e3_K [0] 1 [(2, 34), (0, l1), (0, l2), (0, l3)] [(0, l2)] (H) (G) (wZ L xs) (M := tbM182) rfl rfl trivial ?_
  refine e3_br (M := tbM182) rfl rfl rfl Iff.rfl (fun hc => ?_) (fun hc => ?_)
  · replace h := h.1 hc
    refine e3_K [0, 0, 2] 9 [(2, 34), (0, l1), (0, l2), (0, l3)] [] (e3_up H 34 6 1) (G) (wZ L xs) (M := tbM182) rfl rfl ⟨(Or.inr rfl), trivial⟩ ?_
    generalize hH1 : (e3_up H 34 6 1) = H1
    replace h := h H1 hH1.symm
    refine e3_K [0] 10 [(2, 34), (0, l1), (0, l2), (0, l3)] [(0, 0)] (H1) (G) (wZ L xs) (M := tbM182) rfl rfl trivial ?_
    exact e3_reti (M := tbM182) rfl rfl rfl ⟨_, rfl, h⟩
  · replace h := h.2 hc
    refine e3_K [0] 12 [(2, 34), (0, l1), (0, l2), (0, l3)] [(0, l3)] (H) (G) (wZ L xs) (M := tbM182) rfl rfl trivial ?_
    refine e3_br (M := tbM182) rfl rfl rfl Iff.rfl (fun hc => ?_) (fun hc => ?_)
    · replace h := h.1 hc
      obtain ⟨o2, h⟩ := h
      refine e3_K [0, 0, 1] 24 [(2, 34), (0, l1), (0, l2), (0, l3)] [(0, (e3_rem l1 l2))] (H) (G) (wZ L xs) (M := tbM182) rfl rfl ⟨o2, trivial⟩ ?_
      refine e3_fgt [false, false, false, false] ?_
      exact sS_divided_24 L xs Q _ _ _ h
    · replace h := h.2 hc
      obtain ⟨o3, h⟩ := h
      refine e3_K [0, 0, 1, 0] 24 [(2, 34), (0, l1), (0, l2), (0, l3)] [(0, (e3_div l1 l2))] (H) (G) (wZ L xs) (M := tbM182) rfl rfl ⟨o3, trivial⟩ ?_
      refine e3_fgt [false, false, false, false] ?_
      exact sS_divided_24 L xs Q _ _ _ h
/-- LetterPost$Sorter.sum(LLetterPost$Rule;I)I -/
def wS_sum_135 (Q : Int → e3_H → e3_G → Prop) (s0 : Int) (s1 : Int) (s2 : Int) (H : e3_H) (G : e3_G) : Prop :=
  (wS_divided (fun x3 H1 G2 => Q x3 H1 G2) s2 s1 s0 H G)
def wS_sum_32 (Q : Int → e3_H → e3_G → Prop) (l1 : Int) (l2 : Int) (l3 : Int) (s0 : Int) (H : e3_H) (G : e3_G) : Prop :=
  (e3_ob G 9 l1) ∧ (e3_oa G 0 (H l1 8) l2) ∧ ((((H (H l1 8) l2) : Int) = 37 → (e3_ob G 9 l1) ∧ (e3_oa G 0 (H l1 8) l2) ∧ ((((H (H l1 8) l2) : Int) = 47 → (wS_sum_135 Q 1 s0 l3 H G)) ∧ (¬ (((H (H l1 8) l2) : Int) = 47) → (wS_sum_135 Q 0 s0 l3 H G)))) ∧ (((H (H l1 8) l2) : Int) = 38 → Q l3 H G) ∧ (((H (H l1 8) l2) : Int) = 39 → Q l3 H G) ∧ (((H (H l1 8) l2) : Int) = 40 → Q l3 H G) ∧ (((H (H l1 8) l2) : Int) = 41 → Q l3 H G) ∧ (((H (H l1 8) l2) : Int) = 42 → Q (e3_w32 (l3 * s0)) H G) ∧ (((H (H l1 8) l2) : Int) = 43 → Q (e3_w32 (l3 + s0)) H G) ∧ (((H (H l1 8) l2) : Int) = 44 → Q l3 H G) ∧ (((H (H l1 8) l2) : Int) = 45 → Q (e3_w32 (l3 - s0)) H G) ∧ (((H (H l1 8) l2) : Int) = 46 → Q l3 H G) ∧ (((H (H l1 8) l2) : Int) = 47 → (e3_ob G 9 l1) ∧ (e3_oa G 0 (H l1 8) l2) ∧ ((((H (H l1 8) l2) : Int) = 47 → (wS_sum_135 Q 1 s0 l3 H G)) ∧ (¬ (((H (H l1 8) l2) : Int) = 47) → (wS_sum_135 Q 0 s0 l3 H G)))) ∧ (((H (H l1 8) l2) : Int) < 37 ∨ 47 < (H (H l1 8) l2) → Q l3 H G))
def wS_sum (Q : Int → e3_H → e3_G → Prop) (l1 : Int) (l2 : Int) (H : e3_H) (G : e3_G) : Prop :=
  (wS_term (fun x3 H1 G2 => (e3_ob G2 9 l1) ∧ (e3_oa G2 0 (H1 l1 8) l2) ∧ ((((H1 (H1 l1 8) l2) : Int) = 0 → (wS_sum_32 Q l1 l2 x3 0 H1 G2)) ∧ (¬ (((H1 (H1 l1 8) l2) : Int) = 0) → (wS_term (fun x8 H6 G7 => (wS_sum_32 Q l1 l2 x3 x8 H6 G7)) l1 (e3_w32 ((e3_w32 (2 * l2)) + 1)) H1 G2)))) l1 (e3_w32 (2 * l2)) H G)
set_option maxRecDepth 100000 in
set_option maxHeartbeats 4000000 in
theorem sS_sum_135 (L : Nat) (xs : Nat → Int32) (Q : Int → e3_H → e3_G → Prop) (s0 : Int) (s1 : Int) (s2 : Int) (H : e3_H) (G : e3_G) (h : wS_sum_135 Q s0 s1 s2 H G) : e3_Ev (wB L xs) 3 65 178 135 [(3, 0), (3, 0), (3, 0), (3, 0), (3, 0)] [(0, s0), (0, s1), (0, s2), (2, 34)] H G (e3_q0 Q) := by
  unfold wS_sum_135 at h
  refine e3_call (o := 0) (k := 182) (M2 := tbM182) (f1 := 0) (w1 := 0) (as := [(2, 34), (0, s2), (0, s1), (0, s0)]) (rest := []) (M := tbM178) rfl rfl rfl trivial (Nat.le_of_ble_eq_true rfl) (Nat.le_of_ble_eq_true rfl) (Nat.le_of_ble_eq_true rfl) ?_
  refine e3_mono (sS_divided L xs _ _ _ _ _ _ h) (fun r H1 G2 h => ?_)
  obtain ⟨x3, rfl, h⟩ := h
  change e3_Ev _ _ _ _ 138 [(3, 0), (3, 0), (3, 0), (3, 0), (3, 0)] [(0, x3)] H1 G2 _
  exact e3_reti (M := tbM178) rfl rfl rfl ⟨_, rfl, h⟩
set_option maxRecDepth 100000 in
set_option maxHeartbeats 4000000 in
theorem sS_sum_32 (L : Nat) (xs : Nat → Int32) (Q : Int → e3_H → e3_G → Prop) (l1 : Int) (l2 : Int) (l3 : Int) (s0 : Int) (H : e3_H) (G : e3_G) (h : wS_sum_32 Q l1 l2 l3 s0 H G) : e3_Ev (wB L xs) 3 65 178 32 [(2, 34), (2, l1), (0, l2), (0, l3), (3, 0)] [(0, s0)] H G (e3_q0 Q) := by
  unfold wS_sum_32 at h
  obtain ⟨o1, o2, h⟩ := h
  refine e3_K [0, 0, 3, 0, 3] 40 [(2, 34), (2, l1), (0, l2), (0, l3), (0, s0)] [(0, (H (H l1 8) l2))] (H) (G) (wZ L xs) (M := tbM178) rfl rfl ⟨o1, o2, trivial⟩ ?_
  by_cases hc0 : ((H (H l1 8) l2) : Int) = 37
  · replace h := h.1 hc0
    refine e3_sw (M := tbM178) rfl rfl hc0 rfl ?_
    obtain ⟨o3, o4, h⟩ := h
    refine e3_K [0, 0, 0, 0, 3, 0, 3, 0] 127 [(2, 34), (2, l1), (0, l2), (0, l3), (0, s0)] [(0, 47), (0, (H (H l1 8) l2)), (0, s0), (0, l3), (2, 34)] (H) (G) (wZ L xs) (M := tbM178) rfl rfl ⟨o3, o4, trivial⟩ ?_
    refine e3_br (M := tbM178) rfl rfl rfl Iff.rfl (fun hc => ?_) (fun hc => ?_)
    · replace h := h.1 hc
      refine e3_K [0, 0] 135 [(2, 34), (2, l1), (0, l2), (0, l3), (0, s0)] [(0, 1), (0, s0), (0, l3), (2, 34)] (H) (G) (wZ L xs) (M := tbM178) rfl rfl trivial ?_
      refine e3_fgt [false, false, false, false, false] ?_
      exact sS_sum_135 L xs Q _ _ _ _ _ h
    · replace h := h.2 hc
      refine e3_K [0] 135 [(2, 34), (2, l1), (0, l2), (0, l3), (0, s0)] [(0, 0), (0, s0), (0, l3), (2, 34)] (H) (G) (wZ L xs) (M := tbM178) rfl rfl trivial ?_
      refine e3_fgt [false, false, false, false, false] ?_
      exact sS_sum_135 L xs Q _ _ _ _ _ h
  replace h := h.2
  by_cases hc1 : ((H (H l1 8) l2) : Int) = 38
  · replace h := h.1 hc1
    refine e3_sw (M := tbM178) rfl rfl hc1 rfl ?_
    refine e3_K [0] 140 [(2, 34), (2, l1), (0, l2), (0, l3), (0, s0)] [(0, l3)] (H) (G) (wZ L xs) (M := tbM178) rfl rfl trivial ?_
    exact e3_reti (M := tbM178) rfl rfl rfl ⟨_, rfl, h⟩
  replace h := h.2
  by_cases hc2 : ((H (H l1 8) l2) : Int) = 39
  · replace h := h.1 hc2
    refine e3_sw (M := tbM178) rfl rfl hc2 rfl ?_
    refine e3_K [0] 140 [(2, 34), (2, l1), (0, l2), (0, l3), (0, s0)] [(0, l3)] (H) (G) (wZ L xs) (M := tbM178) rfl rfl trivial ?_
    exact e3_reti (M := tbM178) rfl rfl rfl ⟨_, rfl, h⟩
  replace h := h.2
  by_cases hc3 : ((H (H l1 8) l2) : Int) = 40
  · replace h := h.1 hc3
    refine e3_sw (M := tbM178) rfl rfl hc3 rfl ?_
    refine e3_K [0] 140 [(2, 34), (2, l1), (0, l2), (0, l3), (0, s0)] [(0, l3)] (H) (G) (wZ L xs) (M := tbM178) rfl rfl trivial ?_
    exact e3_reti (M := tbM178) rfl rfl rfl ⟨_, rfl, h⟩
  replace h := h.2
  by_cases hc4 : ((H (H l1 8) l2) : Int) = 41
  · replace h := h.1 hc4
    refine e3_sw (M := tbM178) rfl rfl hc4 rfl ?_
    refine e3_K [0] 140 [(2, 34), (2, l1), (0, l2), (0, l3), (0, s0)] [(0, l3)] (H) (G) (wZ L xs) (M := tbM178) rfl rfl trivial ?_
    exact e3_reti (M := tbM178) rfl rfl rfl ⟨_, rfl, h⟩
  replace h := h.2
  by_cases hc5 : ((H (H l1 8) l2) : Int) = 42
  · replace h := h.1 hc5
    refine e3_sw (M := tbM178) rfl rfl hc5 rfl ?_
    refine e3_K [0, 0, 0] 114 [(2, 34), (2, l1), (0, l2), (0, l3), (0, s0)] [(0, (e3_w32 (l3 * s0)))] (H) (G) (wZ L xs) (M := tbM178) rfl rfl trivial ?_
    exact e3_reti (M := tbM178) rfl rfl rfl ⟨_, rfl, h⟩
  replace h := h.2
  by_cases hc6 : ((H (H l1 8) l2) : Int) = 43
  · replace h := h.1 hc6
    refine e3_sw (M := tbM178) rfl rfl hc6 rfl ?_
    refine e3_K [0, 0, 0] 104 [(2, 34), (2, l1), (0, l2), (0, l3), (0, s0)] [(0, (e3_w32 (l3 + s0)))] (H) (G) (wZ L xs) (M := tbM178) rfl rfl trivial ?_
    exact e3_reti (M := tbM178) rfl rfl rfl ⟨_, rfl, h⟩
  replace h := h.2
  by_cases hc7 : ((H (H l1 8) l2) : Int) = 44
  · replace h := h.1 hc7
    refine e3_sw (M := tbM178) rfl rfl hc7 rfl ?_
    refine e3_K [0] 140 [(2, 34), (2, l1), (0, l2), (0, l3), (0, s0)] [(0, l3)] (H) (G) (wZ L xs) (M := tbM178) rfl rfl trivial ?_
    exact e3_reti (M := tbM178) rfl rfl rfl ⟨_, rfl, h⟩
  replace h := h.2
  by_cases hc8 : ((H (H l1 8) l2) : Int) = 45
  · replace h := h.1 hc8
    refine e3_sw (M := tbM178) rfl rfl hc8 rfl ?_
    refine e3_K [0, 0, 0] 109 [(2, 34), (2, l1), (0, l2), (0, l3), (0, s0)] [(0, (e3_w32 (l3 - s0)))] (H) (G) (wZ L xs) (M := tbM178) rfl rfl trivial ?_
    exact e3_reti (M := tbM178) rfl rfl rfl ⟨_, rfl, h⟩
  replace h := h.2
  by_cases hc9 : ((H (H l1 8) l2) : Int) = 46
  · replace h := h.1 hc9
    refine e3_sw (M := tbM178) rfl rfl hc9 rfl ?_
    refine e3_K [0] 140 [(2, 34), (2, l1), (0, l2), (0, l3), (0, s0)] [(0, l3)] (H) (G) (wZ L xs) (M := tbM178) rfl rfl trivial ?_
    exact e3_reti (M := tbM178) rfl rfl rfl ⟨_, rfl, h⟩
  replace h := h.2
  by_cases hc10 : ((H (H l1 8) l2) : Int) = 47
  · replace h := h.1 hc10
    refine e3_sw (M := tbM178) rfl rfl hc10 rfl ?_
    obtain ⟨o5, o6, h⟩ := h
    refine e3_K [0, 0, 0, 0, 3, 0, 3, 0] 127 [(2, 34), (2, l1), (0, l2), (0, l3), (0, s0)] [(0, 47), (0, (H (H l1 8) l2)), (0, s0), (0, l3), (2, 34)] (H) (G) (wZ L xs) (M := tbM178) rfl rfl ⟨o5, o6, trivial⟩ ?_
    refine e3_br (M := tbM178) rfl rfl rfl Iff.rfl (fun hc => ?_) (fun hc => ?_)
    · replace h := h.1 hc
      refine e3_K [0, 0] 135 [(2, 34), (2, l1), (0, l2), (0, l3), (0, s0)] [(0, 1), (0, s0), (0, l3), (2, 34)] (H) (G) (wZ L xs) (M := tbM178) rfl rfl trivial ?_
      refine e3_fgt [false, false, false, false, false] ?_
      exact sS_sum_135 L xs Q _ _ _ _ _ h
    · replace h := h.2 hc
      refine e3_K [0] 135 [(2, 34), (2, l1), (0, l2), (0, l3), (0, s0)] [(0, 0), (0, s0), (0, l3), (2, 34)] (H) (G) (wZ L xs) (M := tbM178) rfl rfl trivial ?_
      refine e3_fgt [false, false, false, false, false] ?_
      exact sS_sum_135 L xs Q _ _ _ _ _ h
  replace h := h.2
  replace h := h (by omega)
  refine e3_sw (M := tbM178) rfl rfl rfl ((e3_swdt (by omega)).trans rfl) ?_
  refine e3_K [0] 140 [(2, 34), (2, l1), (0, l2), (0, l3), (0, s0)] [(0, l3)] (H) (G) (wZ L xs) (M := tbM178) rfl rfl trivial ?_
  exact e3_reti (M := tbM178) rfl rfl rfl ⟨_, rfl, h⟩
set_option maxRecDepth 100000 in
set_option maxHeartbeats 4000000 in
theorem sS_sum (L : Nat) (xs : Nat → Int32) (Q : Int → e3_H → e3_G → Prop) (l1 : Int) (l2 : Int) (H : e3_H) (G : e3_G) (h : wS_sum Q l1 l2 H G) : e3_Ev (wB L xs) 3 65 178 0 [(2, 34), (2, l1), (0, l2), (3, 0), (3, 0)] [] H G (e3_q0 Q) := by
  unfold wS_sum at h
  refine e3_K [0, 0, 0, 0, 0] 5 [(2, 34), (2, l1), (0, l2), (3, 0), (3, 0)] [(0, (e3_w32 (2 * l2))), (2, l1), (2, 34)] (H) (G) (wZ L xs) (M := tbM178) rfl rfl trivial ?_
  refine e3_call (o := 0) (k := 179) (M2 := tbM179) (f1 := 2) (w1 := 43) (as := [(2, 34), (2, l1), (0, (e3_w32 (2 * l2)))]) (rest := []) (M := tbM178) rfl rfl rfl trivial (Nat.le_of_ble_eq_true rfl) (Nat.le_of_ble_eq_true rfl) (Nat.le_of_ble_eq_true rfl) ?_
  refine e3_mono (sS_term L xs _ _ _ _ _ h) (fun r H1 G2 h => ?_)
  obtain ⟨x3, rfl, h⟩ := h
  change e3_Ev _ _ _ _ 8 [(2, 34), (2, l1), (0, l2), (3, 0), (3, 0)] [(0, x3)] H1 G2 _
  obtain ⟨o4, o5, h⟩ := h
  refine e3_K [0, 0, 3, 0, 3] 15 [(2, 34), (2, l1), (0, l2), (0, x3), (3, 0)] [(0, (H1 (H1 l1 8) l2))] (H1) (G2) (wZ L xs) (M := tbM178) rfl rfl ⟨o4, o5, trivial⟩ ?_
  refine e3_br (M := tbM178) rfl rfl rfl Iff.rfl (fun hc => ?_) (fun hc => ?_)
  · replace h := h.1 hc
    refine e3_K [0, 0] 32 [(2, 34), (2, l1), (0, l2), (0, x3), (3, 0)] [(0, 0)] (H1) (G2) (wZ L xs) (M := tbM178) rfl rfl trivial ?_
    exact sS_sum_32 L xs Q _ _ _ _ _ _ h
  · replace h := h.2 hc
    refine e3_K [0, 0, 0, 0, 0, 0, 0] 29 [(2, 34), (2, l1), (0, l2), (0, x3), (3, 0)] [(0, (e3_w32 ((e3_w32 (2 * l2)) + 1))), (2, l1), (2, 34)] (H1) (G2) (wZ L xs) (M := tbM178) rfl rfl trivial ?_
    refine e3_call (o := 0) (k := 179) (M2 := tbM179) (f1 := 2) (w1 := 43) (as := [(2, 34), (2, l1), (0, (e3_w32 ((e3_w32 (2 * l2)) + 1)))]) (rest := []) (M := tbM178) rfl rfl rfl trivial (Nat.le_of_ble_eq_true rfl) (Nat.le_of_ble_eq_true rfl) (Nat.le_of_ble_eq_true rfl) ?_
    refine e3_mono (sS_term L xs _ _ _ _ _ h) (fun r H6 G7 h => ?_)
    obtain ⟨x8, rfl, h⟩ := h
    change e3_Ev _ _ _ _ 32 [(2, 34), (2, l1), (0, l2), (0, x3), (3, 0)] [(0, x8)] H6 G7 _
    exact sS_sum_32 L xs Q _ _ _ _ _ _ h
/-- LetterPost$Sorter.guardLets(LLetterPost$Rule;)Z -/
def wS_guardLets_146 (Q : Int → e3_H → e3_G → Prop) (s0 : Int) (H : e3_H) (G : e3_G) : Prop :=
  ((s0 : Int) = 0 ∨ s0 = 1) ∧ Q s0 H G
def wS_guardLets_157 (Q : Int → e3_H → e3_G → Prop) (s0 : Int) (H : e3_H) (G : e3_G) : Prop :=
  ((s0 : Int) = 0 ∨ s0 = 1) ∧ Q s0 H G
def wS_guardLets_168 (Q : Int → e3_H → e3_G → Prop) (s0 : Int) (H : e3_H) (G : e3_G) : Prop :=
  ((s0 : Int) = 0 ∨ s0 = 1) ∧ Q s0 H G
def wS_guardLets_88 (Q : Int → e3_H → e3_G → Prop) (l1 : Int) (l2 : Int) (s0 : Int) (H : e3_H) (G : e3_G) : Prop :=
  ((((H 34 6) : Int) = 0 → (e3_ob G 9 l1) ∧ ((((H l1 7) : Int) = 60 → (((l2 : Int) < s0 → (wS_guardLets_146 Q 1 H G)) ∧ (¬ ((l2 : Int) < s0) → (wS_guardLets_146 Q 0 H G)))) ∧ (((H l1 7) : Int) = 61 → (((l2 : Int) = s0 → (wS_guardLets_157 Q 1 H G)) ∧ (¬ ((l2 : Int) = s0) → (wS_guardLets_157 Q 0 H G)))) ∧ (¬ ((H l1 7) : Int) = 60 ∧ ¬ ((H l1 7) : Int) = 61 → (((s0 : Int) < l2 → (wS_guardLets_168 Q 1 H G)) ∧ (¬ ((s0 : Int) < l2) → (wS_guardLets_168 Q 0 H G)))))) ∧ (¬ (((H 34 6) : Int) = 0) → (e3_ob G 9 l1) ∧ (wS_end (fun H3 G4 => Q 0 H3 G4) 3 (H l1 0) H G)))
def wS_guardLets_64 (Q : Int → e3_H → e3_G → Prop) (l1 : Int) (H : e3_H) (G : e3_G) : Prop :=
  (wS_sum (fun x3 H1 G2 => ((((H1 34 6) : Int) = 0 → (wS_sum (fun x6 H4 G5 => (wS_guardLets_88 Q l1 x3 x6 H4 G5)) l1 1 H1 G2)) ∧ (¬ (((H1 34 6) : Int) = 0) → (wS_guardLets_88 Q l1 x3 0 H1 G2)))) l1 0 H G)
def wS_guardLets (Q : Int → e3_H → e3_G → Prop) (l1 : Int) (H : e3_H) (G : e3_G) : Prop :=
  ∀ H1 : e3_H, H1 = e3_up H 34 6 0 → (e3_ob G 9 l1) ∧ (wU_isGuarded (fun x4 H2 G3 => (((x4 : Int) = 0 → Q 1 H2 G3) ∧ (¬ ((x4 : Int) = 0) → ∀ H5 : e3_H, H5 = e3_up H2 37 4 (e3_w32 ((H2 37 4) + 1)) → ((((H5 34 9) : Int) < 32 → (e3_ob G3 9 l1) ∧ ((0 : Int) ≤ (H5 34 9) ∧ ((H5 34 9) : Int) < 32) ∧ ∀ H6 : e3_H, H6 = e3_up H5 38 (H5 34 9) (e3_w32 ((e3_w32 (100 * (H5 34 5))) + (H5 l1 0))) → ∀ H9 : e3_H, H9 = e3_up H6 34 9 (e3_w32 ((H6 34 9) + 1)) → (wS_guardLets_64 Q l1 H9 G3)) ∧ (¬ (((H5 34 9) : Int) < 32) → (wS_guardLets_64 Q l1 H5 G3)))))) l1 H1 G)
set_option maxRecDepth 100000 in
set_option maxHeartbeats 4000000 in
theorem sS_guardLets_146 (L : Nat) (xs : Nat → Int32) (Q : Int → e3_H → e3_G → Prop) (s0 : Int) (H : e3_H) (G : e3_G) (h : wS_guardLets_146 Q s0 H G) : e3_Ev (wB L xs) 4 89 177 146 [(3, 0), (3, 0), (3, 0), (3, 0)] [(0, s0)] H G (e3_q0 Q) := by
  unfold wS_guardLets_146 at h
  exact e3_retb (M := tbM177) rfl rfl rfl h.1 ⟨_, rfl, h.2⟩
set_option maxRecDepth 100000 in
set_option maxHeartbeats 4000000 in
theorem sS_guardLets_157 (L : Nat) (xs : Nat → Int32) (Q : Int → e3_H → e3_G → Prop) (s0 : Int) (H : e3_H) (G : e3_G) (h : wS_guardLets_157 Q s0 H G) : e3_Ev (wB L xs) 4 89 177 157 [(3, 0), (3, 0), (3, 0), (3, 0)] [(0, s0)] H G (e3_q0 Q) := by
  unfold wS_guardLets_157 at h
  exact e3_retb (M := tbM177) rfl rfl rfl h.1 ⟨_, rfl, h.2⟩
set_option maxRecDepth 100000 in
set_option maxHeartbeats 4000000 in
theorem sS_guardLets_168 (L : Nat) (xs : Nat → Int32) (Q : Int → e3_H → e3_G → Prop) (s0 : Int) (H : e3_H) (G : e3_G) (h : wS_guardLets_168 Q s0 H G) : e3_Ev (wB L xs) 4 89 177 168 [(3, 0), (3, 0), (3, 0), (3, 0)] [(0, s0)] H G (e3_q0 Q) := by
  unfold wS_guardLets_168 at h
  exact e3_retb (M := tbM177) rfl rfl rfl h.1 ⟨_, rfl, h.2⟩
set_option maxRecDepth 100000 in
set_option maxHeartbeats 4000000 in
theorem sS_guardLets_88 (L : Nat) (xs : Nat → Int32) (Q : Int → e3_H → e3_G → Prop) (l1 : Int) (l2 : Int) (s0 : Int) (H : e3_H) (G : e3_G) (h : wS_guardLets_88 Q l1 l2 s0 H G) : e3_Ev (wB L xs) 4 89 177 88 [(2, 34), (2, l1), (0, l2), (3, 0)] [(0, s0)] H G (e3_q0 Q) := by
  unfold wS_guardLets_88 at h
  refine e3_K [0, 0, 2] 93 [(2, 34), (2, l1), (0, l2), (0, s0)] [(0, (H 34 6))] (H) (G) (wZ L xs) (M := tbM177) rfl rfl ⟨trivial, trivial⟩ ?_
  refine e3_br (M := tbM177) rfl rfl rfl Iff.rfl (fun hc => ?_) (fun hc => ?_)
  · replace h := h.1 hc
    obtain ⟨o1, h⟩ := h
    refine e3_K [0, 3] 111 [(2, 34), (2, l1), (0, l2), (0, s0)] [(0, (H l1 7))] (H) (G) (wZ L xs) (M := tbM177) rfl rfl ⟨o1, trivial⟩ ?_
    by_cases hc0 : ((H l1 7) : Int) = 60
    · replace h := h.1 hc0
      refine e3_sw (M := tbM177) rfl rfl hc0 rfl ?_
      refine e3_K [0, 0] 138 [(2, 34), (2, l1), (0, l2), (0, s0)] [(0, s0), (0, l2)] (H) (G) (wZ L xs) (M := tbM177) rfl rfl trivial ?_
      refine e3_br (M := tbM177) rfl rfl rfl Iff.rfl (fun hc => ?_) (fun hc => ?_)
      · replace h := h.1 hc
        refine e3_K [0, 0] 146 [(2, 34), (2, l1), (0, l2), (0, s0)] [(0, 1)] (H) (G) (wZ L xs) (M := tbM177) rfl rfl trivial ?_
        refine e3_fgt [false, false, false, false] ?_
        exact sS_guardLets_146 L xs Q _ _ _ h
      · replace h := h.2 hc
        refine e3_K [0] 146 [(2, 34), (2, l1), (0, l2), (0, s0)] [(0, 0)] (H) (G) (wZ L xs) (M := tbM177) rfl rfl trivial ?_
        refine e3_fgt [false, false, false, false] ?_
        exact sS_guardLets_146 L xs Q _ _ _ h
    replace h := h.2
    by_cases hc1 : ((H l1 7) : Int) = 61
    · replace h := h.1 hc1
      refine e3_sw (M := tbM177) rfl rfl hc1 rfl ?_
      refine e3_K [0, 0] 149 [(2, 34), (2, l1), (0, l2), (0, s0)] [(0, s0), (0, l2)] (H) (G) (wZ L xs) (M := tbM177) rfl rfl trivial ?_
      refine e3_br (M := tbM177) rfl rfl rfl Iff.rfl (fun hc => ?_) (fun hc => ?_)
      · replace h := h.1 hc
        refine e3_K [0, 0] 157 [(2, 34), (2, l1), (0, l2), (0, s0)] [(0, 1)] (H) (G) (wZ L xs) (M := tbM177) rfl rfl trivial ?_
        refine e3_fgt [false, false, false, false] ?_
        exact sS_guardLets_157 L xs Q _ _ _ h
      · replace h := h.2 hc
        refine e3_K [0] 157 [(2, 34), (2, l1), (0, l2), (0, s0)] [(0, 0)] (H) (G) (wZ L xs) (M := tbM177) rfl rfl trivial ?_
        refine e3_fgt [false, false, false, false] ?_
        exact sS_guardLets_157 L xs Q _ _ _ h
    replace h := h.2
    replace h := h ⟨hc0, hc1⟩
    refine e3_sw (M := tbM177) rfl rfl rfl ((e3_swdl rfl (fun q hq => (by
      have hq : q ∈ ([(60, 25), (61, 36)] : List (Int × Int)) := hq
      simp only [List.mem_cons, List.not_mem_nil, or_false] at hq
      rcases hq with rfl | rfl
      all_goals (intro hz; simp only at hz; omega)))).trans rfl) ?_
    refine e3_K [0, 0] 160 [(2, 34), (2, l1), (0, l2), (0, s0)] [(0, s0), (0, l2)] (H) (G) (wZ L xs) (M := tbM177) rfl rfl trivial ?_
    refine e3_br (M := tbM177) rfl rfl rfl Iff.rfl (fun hc => ?_) (fun hc => ?_)
    · replace h := h.1 hc
      refine e3_K [0, 0] 168 [(2, 34), (2, l1), (0, l2), (0, s0)] [(0, 1)] (H) (G) (wZ L xs) (M := tbM177) rfl rfl trivial ?_
      refine e3_fgt [false, false, false, false] ?_
      exact sS_guardLets_168 L xs Q _ _ _ h
    · replace h := h.2 hc
      refine e3_K [0] 168 [(2, 34), (2, l1), (0, l2), (0, s0)] [(0, 0)] (H) (G) (wZ L xs) (M := tbM177) rfl rfl trivial ?_
      refine e3_fgt [false, false, false, false] ?_
      exact sS_guardLets_168 L xs Q _ _ _ h
  · replace h := h.2 hc
    obtain ⟨o2, h⟩ := h
    refine e3_K [0, 0, 0, 3] 102 [(2, 34), (2, l1), (0, l2), (0, s0)] [(0, (H l1 0)), (0, 3), (2, 34)] (H) (G) (wZ L xs) (M := tbM177) rfl rfl ⟨o2, trivial⟩ ?_
    refine e3_call (o := 0) (k := 175) (M2 := tbM175) (f1 := 0) (w1 := 0) (as := [(2, 34), (0, 3), (0, (H l1 0))]) (rest := []) (M := tbM177) rfl rfl rfl trivial (Nat.le_of_ble_eq_true rfl) (Nat.le_of_ble_eq_true rfl) (Nat.le_of_ble_eq_true rfl) ?_
    refine e3_mono (sS_end L xs _ _ _ _ _ h) (fun r H3 G4 h => ?_)
    obtain ⟨rfl, h⟩ := h
    change e3_Ev _ _ _ _ 105 [(2, 34), (2, l1), (0, l2), (0, s0)] [] H3 G4 _
    refine e3_K [0] 106 [(2, 34), (2, l1), (0, l2), (0, s0)] [(0, 0)] (H3) (G4) (wZ L xs) (M := tbM177) rfl rfl trivial ?_
    exact e3_retb (M := tbM177) rfl rfl rfl (Or.inl rfl) ⟨_, rfl, h⟩
set_option maxRecDepth 100000 in
set_option maxHeartbeats 4000000 in
theorem sS_guardLets_64 (L : Nat) (xs : Nat → Int32) (Q : Int → e3_H → e3_G → Prop) (l1 : Int) (H : e3_H) (G : e3_G) (h : wS_guardLets_64 Q l1 H G) : e3_Ev (wB L xs) 4 89 177 64 [(2, 34), (2, l1), (3, 0), (3, 0)] [] H G (e3_q0 Q) := by
  unfold wS_guardLets_64 at h
  refine e3_K [0, 0, 0] 67 [(2, 34), (2, l1), (3, 0), (3, 0)] [(0, 0), (2, l1), (2, 34)] (H) (G) (wZ L xs) (M := tbM177) rfl rfl trivial ?_
  refine e3_call (o := 0) (k := 178) (M2 := tbM178) (f1 := 3) (w1 := 65) (as := [(2, 34), (2, l1), (0, 0)]) (rest := []) (M := tbM177) rfl rfl rfl trivial (Nat.le_of_ble_eq_true rfl) (Nat.le_of_ble_eq_true rfl) (Nat.le_of_ble_eq_true rfl) ?_
  refine e3_mono (sS_sum L xs _ _ _ _ _ h) (fun r H1 G2 h => ?_)
  obtain ⟨x3, rfl, h⟩ := h
  change e3_Ev _ _ _ _ 70 [(2, 34), (2, l1), (3, 0), (3, 0)] [(0, x3)] H1 G2 _
  refine e3_K [0, 0, 2] 75 [(2, 34), (2, l1), (0, x3), (3, 0)] [(0, (H1 34 6))] (H1) (G2) (wZ L xs) (M := tbM177) rfl rfl ⟨trivial, trivial⟩ ?_
  refine e3_br (M := tbM177) rfl rfl rfl Iff.rfl (fun hc => ?_) (fun hc => ?_)
  · replace h := h.1 hc
    refine e3_K [0, 0, 0] 85 [(2, 34), (2, l1), (0, x3), (3, 0)] [(0, 1), (2, l1), (2, 34)] (H1) (G2) (wZ L xs) (M := tbM177) rfl rfl trivial ?_
    refine e3_call (o := 0) (k := 178) (M2 := tbM178) (f1 := 3) (w1 := 65) (as := [(2, 34), (2, l1), (0, 1)]) (rest := []) (M := tbM177) rfl rfl rfl trivial (Nat.le_of_ble_eq_true rfl) (Nat.le_of_ble_eq_true rfl) (Nat.le_of_ble_eq_true rfl) ?_
    refine e3_mono (sS_sum L xs _ _ _ _ _ h) (fun r H4 G5 h => ?_)
    obtain ⟨x6, rfl, h⟩ := h
    change e3_Ev _ _ _ _ 88 [(2, 34), (2, l1), (0, x3), (3, 0)] [(0, x6)] H4 G5 _
    exact sS_guardLets_88 L xs Q _ _ _ _ _ h
  · replace h := h.2 hc
    refine e3_K [0, 0] 88 [(2, 34), (2, l1), (0, x3), (3, 0)] [(0, 0)] (H1) (G2) (wZ L xs) (M := tbM177) rfl rfl trivial ?_
    exact sS_guardLets_88 L xs Q _ _ _ _ _ h
set_option maxRecDepth 100000 in
set_option maxHeartbeats 4000000 in
theorem sS_guardLets (L : Nat) (xs : Nat → Int32) (Q : Int → e3_H → e3_G → Prop) (l1 : Int) (H : e3_H) (G : e3_G) (h : wS_guardLets Q l1 H G) : e3_Ev (wB L xs) 4 89 177 0 [(2, 34), (2, l1), (3, 0), (3, 0)] [] H G (e3_q0 Q) := by
  unfold wS_guardLets at h
  refine e3_K [0, 0, 2] 5 [(2, 34), (2, l1), (3, 0), (3, 0)] [] (e3_up H 34 6 0) (G) (wZ L xs) (M := tbM177) rfl rfl ⟨(Or.inl rfl), trivial⟩ ?_
  generalize hH1 : (e3_up H 34 6 0) = H1
  replace h := h H1 hH1.symm
  refine e3_K [0] 6 [(2, 34), (2, l1), (3, 0), (3, 0)] [(2, l1)] (H1) (G) (wZ L xs) (M := tbM177) rfl rfl trivial ?_
  obtain ⟨oz, h⟩ := h
  refine e3_call (o := 1) (k := 119) (M2 := tbM119) (f1 := 0) (w1 := 0) (as := [(2, l1)]) (rest := []) (M := tbM177) rfl rfl rfl oz (Nat.le_of_ble_eq_true rfl) (Nat.le_of_ble_eq_true rfl) (Nat.le_of_ble_eq_true rfl) ?_
  refine e3_mono (sU_isGuarded L xs _ _ _ _ h) (fun r H2 G3 h => ?_)
  obtain ⟨x4, rfl, h⟩ := h
  change e3_Ev _ _ _ _ 9 [(2, 34), (2, l1), (3, 0), (3, 0)] [(0, x4)] H2 G3 _
  refine e3_br (M := tbM177) rfl rfl rfl Iff.rfl (fun hc => ?_) (fun hc => ?_)
  · replace h := h.1 hc
    refine e3_K [0] 13 [(2, 34), (2, l1), (3, 0), (3, 0)] [(0, 1)] (H2) (G3) (wZ L xs) (M := tbM177) rfl rfl trivial ?_
    exact e3_retb (M := tbM177) rfl rfl rfl (Or.inr rfl) ⟨_, rfl, h⟩
  · replace h := h.2 hc
    refine e3_K [0, 4, 0, 0, 2, 0, 0, 2] 24 [(2, 34), (2, l1), (3, 0), (3, 0)] [] (e3_up H2 37 4 (e3_w32 ((H2 37 4) + 1))) (G3) (wZ L xs) (M := tbM177) rfl rfl ⟨trivial, ⟨by decide, by decide⟩, ⟨by decide, by decide⟩, trivial⟩ ?_
    generalize hH5 : (e3_up H2 37 4 (e3_w32 ((H2 37 4) + 1))) = H5
    replace h := h H5 hH5.symm
    refine e3_K [0, 2, 0] 30 [(2, 34), (2, l1), (3, 0), (3, 0)] [(0, 32), (0, (H5 34 9))] (H5) (G3) (wZ L xs) (M := tbM177) rfl rfl ⟨trivial, trivial⟩ ?_
    refine e3_br (M := tbM177) rfl rfl rfl Iff.rfl (fun hc => ?_) (fun hc => ?_)
    · replace h := h.1 hc
      obtain ⟨o7, o8, h⟩ := h
      refine e3_K [0, 4, 0, 2, 0, 0, 2, 0, 0, 3, 0, 2] 54 [(2, 34), (2, l1), (3, 0), (3, 0)] [] (e3_up H5 38 (H5 34 9) (e3_w32 ((e3_w32 (100 * (H5 34 5))) + (H5 l1 0)))) (G3) (wZ L xs) (M := tbM177) rfl rfl ⟨trivial, trivial, trivial, o7, o8, trivial⟩ ?_
      generalize hH6 : (e3_up H5 38 (H5 34 9) (e3_w32 ((e3_w32 (100 * (H5 34 5))) + (H5 l1 0)))) = H6
      replace h := h H6 hH6.symm
      refine e3_K [0, 0, 2, 0, 0, 2] 64 [(2, 34), (2, l1), (3, 0), (3, 0)] [] (e3_up H6 34 9 (e3_w32 ((H6 34 9) + 1))) (G3) (wZ L xs) (M := tbM177) rfl rfl ⟨trivial, trivial, trivial⟩ ?_
      generalize hH9 : (e3_up H6 34 9 (e3_w32 ((H6 34 9) + 1))) = H9
      replace h := h H9 hH9.symm
      exact sS_guardLets_64 L xs Q _ _ _ h
    · replace h := h.2 hc
      exact sS_guardLets_64 L xs Q _ _ _ h
/-- LetterPost$Sorter.byTree(LLetterPost$Function;)LLetterPost$Rule; -/
def wS_byTree_137 (Q : Int → e3_H → e3_G → Prop)  (H : e3_H) (G : e3_G) : Prop :=
  (wS_end (fun H1 G2 => Q (-1) H1 G2) 1 (-4) H G)
def wS_byTree_131 (Q : Int → e3_H → e3_G → Prop) (k10 : Int → Int → Int → Int → e3_H → e3_G → Prop) (l1 : Int) (l2 : Int) (l3 : Int) (l4 : Int) (H : e3_H) (G : e3_G) : Prop :=
  (k10 l1 l2 l3 (e3_w32 (l4 + 1)) H G)
def wS_byTree_10 (Q : Int → e3_H → e3_G → Prop) : Nat → Int → Int → Int → Int → e3_H → e3_G → Prop
  | 0, _, _, _, _, _, _ => False
  | nn + 1, l1, l2, l3, l4, H, G => (((l4 : Int) < 120 → (e3_ob G 5 l2) ∧ (wE_has (fun x3 H1 G2 => (((x3 : Int) = 0 → (wS_byTree_137 Q H1 G2)) ∧ (¬ ((x3 : Int) = 0) → (e3_ob G2 5 l2) ∧ (e3_oa G2 0 (H1 l2 5) l3) ∧ (e3_ob G2 8 l1) ∧ (wF_rowAt (fun x8 H6 G7 => (e3_ob G7 5 l2) ∧ (e3_oa G7 0 (H6 l2 4) l3) ∧ ((((H6 (H6 l2 4) l3) : Int) = 0 → (wS_byTree_137 Q H6 G7)) ∧ (¬ (((H6 (H6 l2 4) l3) : Int) = 0) → (((x8 : Int) < 0 → ∀ H11 : e3_H, H11 = e3_up H6 37 3 (e3_w32 ((H6 37 3) + 1)) → (e3_ob G7 5 l2) ∧ (e3_oa G7 0 (H11 l2 6) l3) ∧ (wS_labelAt (fun x16 H14 G15 => (e3_ob G15 5 l2) ∧ (wE_follow (fun x19 H17 G18 => (((x19 : Int) < 0 → (wS_end (fun H20 G21 => Q (-1) H20 G21) 2 (-4) H17 G18)) ∧ (¬ ((x19 : Int) < 0) → (wS_byTree_131 Q (fun l1 l2 l3 l4 H G => wS_byTree_10 Q nn l1 l2 l3 l4 H G) l1 l2 x19 l4 H17 G18)))) l2 l3 x16 H14 G15)) l1 (H11 (H11 l2 6) l3) H11 G7)) ∧ (¬ ((x8 : Int) < 0) → (wS_holdRow (fun H23 G24 => (e3_ob G24 11 x8) ∧ (wS_guardLets (fun x29 H27 G28 => (((x29 : Int) = 0 → ((((H27 34 6) : Int) = 0 → (wS_byTree_131 Q (fun l1 l2 l3 l4 H G => wS_byTree_10 Q nn l1 l2 l3 l4 H G) l1 l2 (e3_w32 (l3 + 1)) l4 H27 G28)) ∧ (¬ (((H27 34 6) : Int) = 0) → Q (-1) H27 G28))) ∧ (¬ ((x29 : Int) = 0) → (e3_ob G28 11 x8) ∧ Q (H27 x8 0) H27 G28))) (H23 x8 0) H23 G24)) l1 x8 H6 G7)))))) l1 (H1 (H1 l2 5) l3) H1 G2)))) l2 l3 H G)) ∧ (¬ ((l4 : Int) < 120) → (wS_byTree_137 Q H G)))
def wS_byTree (Q : Int → e3_H → e3_G → Prop) (l1 : Int) (H : e3_H) (G : e3_G) : Prop :=
  (e3_ob G 8 l1) ∧ (∃ n, wS_byTree_10 Q n l1 (H l1 10) 0 0 H G)
set_option maxRecDepth 100000 in
set_option maxHeartbeats 4000000 in
theorem sS_byTree_137 (L : Nat) (xs : Nat → Int32) (Q : Int → e3_H → e3_G → Prop)  (H : e3_H) (G : e3_G) (h : wS_byTree_137 Q  H G) : e3_Ev (wB L xs) 22 486 170 137 [(2, 34), (3, 0), (3, 0), (3, 0), (3, 0), (3, 0)] [] H G (e3_q2 Q) := by
  unfold wS_byTree_137 at h
  refine e3_K [0, 0, 0] 141 [(2, 34), (3, 0), (3, 0), (3, 0), (3, 0), (3, 0)] [(0, (-4)), (0, 1), (2, 34)] (H) (G) (wZ L xs) (M := tbM170) rfl rfl trivial ?_
  refine e3_call (o := 0) (k := 175) (M2 := tbM175) (f1 := 0) (w1 := 0) (as := [(2, 34), (0, 1), (0, (-4))]) (rest := []) (M := tbM170) rfl rfl rfl trivial (Nat.le_of_ble_eq_true rfl) (Nat.le_of_ble_eq_true rfl) (Nat.le_of_ble_eq_true rfl) ?_
  refine e3_mono (sS_end L xs _ _ _ _ _ h) (fun r H1 G2 h => ?_)
  obtain ⟨rfl, h⟩ := h
  change e3_Ev _ _ _ _ 144 [(2, 34), (3, 0), (3, 0), (3, 0), (3, 0), (3, 0)] [] H1 G2 _
  refine e3_K [0] 145 [(2, 34), (3, 0), (3, 0), (3, 0), (3, 0), (3, 0)] [(2, (-1))] (H1) (G2) (wZ L xs) (M := tbM170) rfl rfl trivial ?_
  exact e3_reta (M := tbM170) rfl rfl rfl ⟨_, rfl, h⟩
set_option maxRecDepth 100000 in
set_option maxHeartbeats 4000000 in
theorem sS_byTree_131 (L : Nat) (xs : Nat → Int32) (Q : Int → e3_H → e3_G → Prop) (k10 : Int → Int → Int → Int → e3_H → e3_G → Prop) (hk10 : ∀ (l1 : Int) (l2 : Int) (l3 : Int) (l4 : Int) (H : e3_H) (G : e3_G), k10 l1 l2 l3 l4 H G → e3_Ev (wB L xs) 22 486 170 10 [(2, 34), (2, l1), (2, l2), (0, l3), (0, l4), (3, 0)] [] H G (e3_q2 Q)) (l1 : Int) (l2 : Int) (l3 : Int) (l4 : Int) (H : e3_H) (G : e3_G) (h : wS_byTree_131 Q k10 l1 l2 l3 l4 H G) : e3_Ev (wB L xs) 22 486 170 131 [(2, 34), (2, l1), (2, l2), (0, l3), (0, l4), (3, 0)] [] H G (e3_q2 Q) := by
  unfold wS_byTree_131 at h
  refine e3_K [0, 0] 10 [(2, 34), (2, l1), (2, l2), (0, l3), (0, (e3_w32 (l4 + 1))), (3, 0)] [] (H) (G) (wZ L xs) (M := tbM170) rfl rfl trivial ?_
  exact hk10 _ _ _ _ _ _ h
set_option maxRecDepth 100000 in
set_option maxHeartbeats 4000000 in
theorem sS_byTree_10 (L : Nat) (xs : Nat → Int32) (Q : Int → e3_H → e3_G → Prop) : ∀ (nl : Nat) (l1 : Int) (l2 : Int) (l3 : Int) (l4 : Int) (H : e3_H) (G : e3_G), wS_byTree_10 Q nl l1 l2 l3 l4 H G → e3_Ev (wB L xs) 22 486 170 10 [(2, 34), (2, l1), (2, l2), (0, l3), (0, l4), (3, 0)] [] H G (e3_q2 Q) := by
  intro nl
  induction nl with
  | zero => intro l1 l2 l3 l4 H G h; exact h.elim
  | succ nn ih =>
    intro l1 l2 l3 l4 H G h
    have h : (((l4 : Int) < 120 → (e3_ob G 5 l2) ∧ (wE_has (fun x3 H1 G2 => (((x3 : Int) = 0 → (wS_byTree_137 Q H1 G2)) ∧ (¬ ((x3 : Int) = 0) → (e3_ob G2 5 l2) ∧ (e3_oa G2 0 (H1 l2 5) l3) ∧ (e3_ob G2 8 l1) ∧ (wF_rowAt (fun x8 H6 G7 => (e3_ob G7 5 l2) ∧ (e3_oa G7 0 (H6 l2 4) l3) ∧ ((((H6 (H6 l2 4) l3) : Int) = 0 → (wS_byTree_137 Q H6 G7)) ∧ (¬ (((H6 (H6 l2 4) l3) : Int) = 0) → (((x8 : Int) < 0 → ∀ H11 : e3_H, H11 = e3_up H6 37 3 (e3_w32 ((H6 37 3) + 1)) → (e3_ob G7 5 l2) ∧ (e3_oa G7 0 (H11 l2 6) l3) ∧ (wS_labelAt (fun x16 H14 G15 => (e3_ob G15 5 l2) ∧ (wE_follow (fun x19 H17 G18 => (((x19 : Int) < 0 → (wS_end (fun H20 G21 => Q (-1) H20 G21) 2 (-4) H17 G18)) ∧ (¬ ((x19 : Int) < 0) → (wS_byTree_131 Q (fun l1 l2 l3 l4 H G => wS_byTree_10 Q nn l1 l2 l3 l4 H G) l1 l2 x19 l4 H17 G18)))) l2 l3 x16 H14 G15)) l1 (H11 (H11 l2 6) l3) H11 G7)) ∧ (¬ ((x8 : Int) < 0) → (wS_holdRow (fun H23 G24 => (e3_ob G24 11 x8) ∧ (wS_guardLets (fun x29 H27 G28 => (((x29 : Int) = 0 → ((((H27 34 6) : Int) = 0 → (wS_byTree_131 Q (fun l1 l2 l3 l4 H G => wS_byTree_10 Q nn l1 l2 l3 l4 H G) l1 l2 (e3_w32 (l3 + 1)) l4 H27 G28)) ∧ (¬ (((H27 34 6) : Int) = 0) → Q (-1) H27 G28))) ∧ (¬ ((x29 : Int) = 0) → (e3_ob G28 11 x8) ∧ Q (H27 x8 0) H27 G28))) (H23 x8 0) H23 G24)) l1 x8 H6 G7)))))) l1 (H1 (H1 l2 5) l3) H1 G2)))) l2 l3 H G)) ∧ (¬ ((l4 : Int) < 120) → (wS_byTree_137 Q H G))) := h
    refine e3_K [0, 0] 14 [(2, 34), (2, l1), (2, l2), (0, l3), (0, l4), (3, 0)] [(0, 120), (0, l4)] (H) (G) (wZ L xs) (M := tbM170) rfl rfl trivial ?_
    refine e3_br (M := tbM170) rfl rfl rfl Iff.rfl (fun hc => ?_) (fun hc => ?_)
    · replace h := h.1 hc
      refine e3_K [0, 0] 19 [(2, 34), (2, l1), (2, l2), (0, l3), (0, l4), (3, 0)] [(0, l3), (2, l2)] (H) (G) (wZ L xs) (M := tbM170) rfl rfl trivial ?_
      obtain ⟨oz, h⟩ := h
      refine e3_call (o := 1) (k := 125) (M2 := tbM125) (f1 := 0) (w1 := 0) (as := [(2, l2), (0, l3)]) (rest := []) (M := tbM170) rfl rfl rfl oz (Nat.le_of_ble_eq_true rfl) (Nat.le_of_ble_eq_true rfl) (Nat.le_of_ble_eq_true rfl) ?_
      refine e3_mono (sE_has L xs _ _ _ _ _ h) (fun r H1 G2 h => ?_)
      obtain ⟨x3, rfl, h⟩ := h
      change e3_Ev _ _ _ _ 22 [(2, 34), (2, l1), (2, l2), (0, l3), (0, l4), (3, 0)] [(0, x3)] H1 G2 _
      refine e3_br (M := tbM170) rfl rfl rfl Iff.rfl (fun hc => ?_) (fun hc => ?_)
      · replace h := h.1 hc
        refine e3_fgt [true, false, false, false, false, false] ?_
        exact sS_byTree_137 L xs Q _ _ h
      · replace h := h.2 hc
        obtain ⟨o4, o5, h⟩ := h
        refine e3_K [0, 0, 3, 0, 3] 32 [(2, 34), (2, l1), (2, l2), (0, l3), (0, l4), (3, 0)] [(0, (H1 (H1 l2 5) l3)), (2, l1)] (H1) (G2) (wZ L xs) (M := tbM170) rfl rfl ⟨o4, o5, trivial⟩ ?_
        obtain ⟨oz, h⟩ := h
        refine e3_call (o := 1) (k := 104) (M2 := tbM104) (f1 := 0) (w1 := 0) (as := [(2, l1), (0, (H1 (H1 l2 5) l3))]) (rest := []) (M := tbM170) rfl rfl rfl oz (Nat.le_of_ble_eq_true rfl) (Nat.le_of_ble_eq_true rfl) (Nat.le_of_ble_eq_true rfl) ?_
        refine e3_mono (sF_rowAt L xs _ _ _ _ _ h) (fun r H6 G7 h => ?_)
        obtain ⟨x8, rfl, h⟩ := h
        change e3_Ev _ _ _ _ 35 [(2, 34), (2, l1), (2, l2), (0, l3), (0, l4), (3, 0)] [(2, x8)] H6 G7 _
        obtain ⟨o9, o10, h⟩ := h
        refine e3_K [0, 0, 3, 0, 3] 43 [(2, 34), (2, l1), (2, l2), (0, l3), (0, l4), (2, x8)] [(0, (H6 (H6 l2 4) l3))] (H6) (G7) (wZ L xs) (M := tbM170) rfl rfl ⟨o9, o10, trivial⟩ ?_
        refine e3_br (M := tbM170) rfl rfl rfl Iff.rfl (fun hc => ?_) (fun hc => ?_)
        · replace h := h.1 hc
          refine e3_K [0] 137 [(2, 34), (2, l1), (2, l2), (0, l3), (0, l4), (2, x8)] [] (H6) (G7) (wZ L xs) (M := tbM170) rfl rfl trivial ?_
          refine e3_fgt [true, false, false, false, false, false] ?_
          exact sS_byTree_137 L xs Q _ _ h
        · replace h := h.2 hc
          refine e3_K [0] 51 [(2, 34), (2, l1), (2, l2), (0, l3), (0, l4), (2, x8)] [(2, x8)] (H6) (G7) (wZ L xs) (M := tbM170) rfl rfl trivial ?_
          refine e3_br (M := tbM170) rfl rfl rfl Iff.rfl (fun hc => ?_) (fun hc => ?_)
          · replace h := h.1 hc
            refine e3_K [0, 4, 0, 0, 2, 0, 0, 2] 64 [(2, 34), (2, l1), (2, l2), (0, l3), (0, l4), (2, x8)] [] (e3_up H6 37 3 (e3_w32 ((H6 37 3) + 1))) (G7) (wZ L xs) (M := tbM170) rfl rfl ⟨trivial, ⟨by decide, by decide⟩, ⟨by decide, by decide⟩, trivial⟩ ?_
            generalize hH11 : (e3_up H6 37 3 (e3_w32 ((H6 37 3) + 1))) = H11
            replace h := h H11 hH11.symm
            obtain ⟨o12, o13, h⟩ := h
            refine e3_K [0, 0, 0, 0, 0, 3, 0, 3] 74 [(2, 34), (2, l1), (2, l2), (0, l3), (0, l4), (2, x8)] [(0, (H11 (H11 l2 6) l3)), (2, l1), (2, 34), (0, l3), (2, l2)] (H11) (G7) (wZ L xs) (M := tbM170) rfl rfl ⟨o12, o13, trivial⟩ ?_
            refine e3_call (o := 0) (k := 171) (M2 := tbM171) (f1 := 21) (w1 := 463) (as := [(2, 34), (2, l1), (0, (H11 (H11 l2 6) l3))]) (rest := [(0, l3), (2, l2)]) (M := tbM170) rfl rfl rfl trivial (Nat.le_of_ble_eq_true rfl) (Nat.le_of_ble_eq_true rfl) (Nat.le_of_ble_eq_true rfl) ?_
            refine e3_mono (sS_labelAt L xs _ _ _ _ _ h) (fun r H14 G15 h => ?_)
            obtain ⟨x16, rfl, h⟩ := h
            change e3_Ev _ _ _ _ 77 [(2, 34), (2, l1), (2, l2), (0, l3), (0, l4), (2, x8)] [(1, x16), (0, l3), (2, l2)] H14 G15 _
            obtain ⟨oz, h⟩ := h
            refine e3_call (o := 1) (k := 173) (M2 := tbM173) (f1 := 1) (w1 := 24) (as := [(2, l2), (0, l3), (1, x16)]) (rest := []) (M := tbM170) rfl rfl rfl oz (Nat.le_of_ble_eq_true rfl) (Nat.le_of_ble_eq_true rfl) (Nat.le_of_ble_eq_true rfl) ?_
            refine e3_mono (sE_follow L xs _ _ _ _ _ _ h) (fun r H17 G18 h => ?_)
            obtain ⟨x19, rfl, h⟩ := h
            change e3_Ev _ _ _ _ 80 [(2, 34), (2, l1), (2, l2), (0, l3), (0, l4), (2, x8)] [(0, x19)] H17 G18 _
            refine e3_K [0, 0] 82 [(2, 34), (2, l1), (2, l2), (0, x19), (0, l4), (2, x8)] [(0, x19)] (H17) (G18) (wZ L xs) (M := tbM170) rfl rfl trivial ?_
            refine e3_br (M := tbM170) rfl rfl rfl Iff.rfl (fun hc => ?_) (fun hc => ?_)
            · replace h := h.1 hc
              refine e3_K [0, 0, 0] 89 [(2, 34), (2, l1), (2, l2), (0, x19), (0, l4), (2, x8)] [(0, (-4)), (0, 2), (2, 34)] (H17) (G18) (wZ L xs) (M := tbM170) rfl rfl trivial ?_
              refine e3_call (o := 0) (k := 175) (M2 := tbM175) (f1 := 0) (w1 := 0) (as := [(2, 34), (0, 2), (0, (-4))]) (rest := []) (M := tbM170) rfl rfl rfl trivial (Nat.le_of_ble_eq_true rfl) (Nat.le_of_ble_eq_true rfl) (Nat.le_of_ble_eq_true rfl) ?_
              refine e3_mono (sS_end L xs _ _ _ _ _ h) (fun r H20 G21 h => ?_)
              obtain ⟨rfl, h⟩ := h
              change e3_Ev _ _ _ _ 92 [(2, 34), (2, l1), (2, l2), (0, x19), (0, l4), (2, x8)] [] H20 G21 _
              refine e3_K [0] 93 [(2, 34), (2, l1), (2, l2), (0, x19), (0, l4), (2, x8)] [(2, (-1))] (H20) (G21) (wZ L xs) (M := tbM170) rfl rfl trivial ?_
              exact e3_reta (M := tbM170) rfl rfl rfl ⟨_, rfl, h⟩
            · replace h := h.2 hc
              refine e3_fgt [true, true, true, true, true, false] ?_
              exact sS_byTree_131 L xs Q (fun l1 l2 l3 l4 H G => wS_byTree_10 Q nn l1 l2 l3 l4 H G) ih _ _ _ _ _ _ h
          · replace h := h.2 hc
            refine e3_K [0, 0, 0] 98 [(2, 34), (2, l1), (2, l2), (0, l3), (0, l4), (2, x8)] [(2, x8), (2, l1), (2, 34)] (H6) (G7) (wZ L xs) (M := tbM170) rfl rfl trivial ?_
            refine e3_call (o := 0) (k := 176) (M2 := tbM176) (f1 := 21) (w1 := 463) (as := [(2, 34), (2, l1), (2, x8)]) (rest := []) (M := tbM170) rfl rfl rfl trivial (Nat.le_of_ble_eq_true rfl) (Nat.le_of_ble_eq_true rfl) (Nat.le_of_ble_eq_true rfl) ?_
            refine e3_mono (sS_holdRow L xs _ _ _ _ _ h) (fun r H23 G24 h => ?_)
            obtain ⟨rfl, h⟩ := h
            change e3_Ev _ _ _ _ 101 [(2, 34), (2, l1), (2, l2), (0, l3), (0, l4), (2, x8)] [] H23 G24 _
            obtain ⟨o26, h⟩ := h
            refine e3_K [0, 0, 3] 107 [(2, 34), (2, l1), (2, l2), (0, l3), (0, l4), (2, x8)] [(2, (H23 x8 0)), (2, 34)] (H23) (G24) (wZ L xs) (M := tbM170) rfl rfl ⟨o26, trivial⟩ ?_
            refine e3_call (o := 0) (k := 177) (M2 := tbM177) (f1 := 4) (w1 := 89) (as := [(2, 34), (2, (H23 x8 0))]) (rest := []) (M := tbM170) rfl rfl rfl trivial (Nat.le_of_ble_eq_true rfl) (Nat.le_of_ble_eq_true rfl) (Nat.le_of_ble_eq_true rfl) ?_
            refine e3_mono (sS_guardLets L xs _ _ _ _ h) (fun r H27 G28 h => ?_)
            obtain ⟨x29, rfl, h⟩ := h
            change e3_Ev _ _ _ _ 110 [(2, 34), (2, l1), (2, l2), (0, l3), (0, l4), (2, x8)] [(0, x29)] H27 G28 _
            refine e3_br (M := tbM170) rfl rfl rfl Iff.rfl (fun hc => ?_) (fun hc => ?_)
            · replace h := h.1 hc
              refine e3_K [0, 2] 123 [(2, 34), (2, l1), (2, l2), (0, l3), (0, l4), (2, x8)] [(0, (H27 34 6))] (H27) (G28) (wZ L xs) (M := tbM170) rfl rfl ⟨trivial, trivial⟩ ?_
              refine e3_br (M := tbM170) rfl rfl rfl Iff.rfl (fun hc => ?_) (fun hc => ?_)
              · replace h := h.1 hc
                refine e3_K [0] 131 [(2, 34), (2, l1), (2, l2), (0, (e3_w32 (l3 + 1))), (0, l4), (2, x8)] [] (H27) (G28) (wZ L xs) (M := tbM170) rfl rfl trivial ?_
                refine e3_fgt [true, true, true, true, true, false] ?_
                exact sS_byTree_131 L xs Q (fun l1 l2 l3 l4 H G => wS_byTree_10 Q nn l1 l2 l3 l4 H G) ih _ _ _ _ _ _ h
              · replace h := h.2 hc
                refine e3_K [0] 127 [(2, 34), (2, l1), (2, l2), (0, l3), (0, l4), (2, x8)] [(2, (-1))] (H27) (G28) (wZ L xs) (M := tbM170) rfl rfl trivial ?_
                exact e3_reta (M := tbM170) rfl rfl rfl ⟨_, rfl, h⟩
            · replace h := h.2 hc
              obtain ⟨o30, h⟩ := h
              refine e3_K [0, 3] 118 [(2, 34), (2, l1), (2, l2), (0, l3), (0, l4), (2, x8)] [(2, (H27 x8 0))] (H27) (G28) (wZ L xs) (M := tbM170) rfl rfl ⟨o30, trivial⟩ ?_
              exact e3_reta (M := tbM170) rfl rfl rfl ⟨_, rfl, h⟩
    · replace h := h.2 hc
      refine e3_fgt [true, false, false, false, false, false] ?_
      exact sS_byTree_137 L xs Q _ _ h
set_option maxRecDepth 100000 in
set_option maxHeartbeats 4000000 in
theorem sS_byTree (L : Nat) (xs : Nat → Int32) (Q : Int → e3_H → e3_G → Prop) (l1 : Int) (H : e3_H) (G : e3_G) (h : wS_byTree Q l1 H G) : e3_Ev (wB L xs) 22 486 170 0 [(2, 34), (2, l1), (3, 0), (3, 0), (3, 0), (3, 0)] [] H G (e3_q2 Q) := by
  unfold wS_byTree at h
  obtain ⟨o1, h⟩ := h
  refine e3_K [0, 3, 0, 0, 0, 0, 0] 10 [(2, 34), (2, l1), (2, (H l1 10)), (0, 0), (0, 0), (3, 0)] [] (H) (G) (wZ L xs) (M := tbM170) rfl rfl ⟨o1, trivial⟩ ?_
  obtain ⟨nl, h⟩ := h
  exact sS_byTree_10 L xs Q nl _ _ _ _ _ _ h
