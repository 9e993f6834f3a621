/-- LetterPost$Reader.readGuard()Z -/
def wR_readGuard_49 (Q : Int → e3_H → e3_G → Prop) (l1 : Int) (H : e3_H) (G : e3_G) : Prop :=
  (e3_ob G 9 (H 14 7)) ∧ ∀ H1 : e3_H, H1 = e3_up H (H 14 7) 7 l1 → (wT_step (fun H3 G4 => (wR_readSum (fun x8 H6 G7 => ((x8 : Int) = 0 ∨ x8 = 1) ∧ Q x8 H6 G7) 1 H3 G4)) H1 G)
def wR_readGuard (Q : Int → e3_H → e3_G → Prop)  (H : e3_H) (G : e3_G) : Prop :=
  (wT_step (fun H1 G2 => (wR_readSum (fun x6 H4 G5 => (((x6 : Int) = 0 → Q 0 H4 G5) ∧ (¬ ((x6 : Int) = 0) → ((((H4 3 7) : Int) = 60 → (wR_readGuard_49 Q (H4 3 7) H4 G5)) ∧ (¬ (((H4 3 7) : Int) = 60) → ((((H4 3 7) : Int) = 61 → (wR_readGuard_49 Q (H4 3 7) H4 G5)) ∧ (¬ (((H4 3 7) : Int) = 61) → ((((H4 3 7) : Int) = 62 → (wR_readGuard_49 Q (H4 3 7) H4 G5)) ∧ (¬ (((H4 3 7) : Int) = 62) → (wR_failHere (fun x9 H7 G8 => ((x9 : Int) = 0 ∨ x9 = 1) ∧ Q x9 H7 G8) 2 H4 G5)))))))))) 0 H1 G2)) H G)
set_option maxRecDepth 100000 in
set_option maxHeartbeats 4000000 in
theorem sR_readGuard_49 (L : Nat) (xs : Nat → Int32) (Q : Int → e3_H → e3_G → Prop) (l1 : Int) (H : e3_H) (G : e3_G) (h : wR_readGuard_49 Q l1 H G) : e3_Ev (wB L xs) 4 87 73 49 [(2, 14), (0, l1)] [] H G (e3_q0 Q) := by
  unfold wR_readGuard_49 at h
  obtain ⟨o2, h⟩ := h
  refine e3_K [0, 2, 0, 3] 57 [(2, 14), (0, l1)] [] (e3_up H (H 14 7) 7 l1) (G) (wZ L xs) (M := tbM73) rfl rfl ⟨trivial, ⟨o2, trivial⟩, trivial⟩ ?_
  generalize hH1 : (e3_up H (H 14 7) 7 l1) = H1
  replace h := h H1 hH1.symm
  refine e3_K [0, 4] 61 [(2, 14), (0, l1)] [(2, 3)] (H1) (G) (wZ L xs) (M := tbM73) rfl rfl ⟨trivial, trivial⟩ ?_
  refine e3_call (o := 0) (k := 25) (M2 := tbM25) (f1 := 0) (w1 := 0) (as := [(2, 3)]) (rest := []) (M := tbM73) rfl rfl rfl trivial (Nat.le_of_ble_eq_true rfl) (Nat.le_of_ble_eq_true rfl) (Nat.le_of_ble_eq_true rfl) ?_
  refine e3_mono (sT_step L xs _ _ _ h) (fun r H3 G4 h => ?_)
  obtain ⟨rfl, h⟩ := h
  change e3_Ev _ _ _ _ 64 [(2, 14), (0, l1)] [] H3 G4 _
  refine e3_K [0, 0] 66 [(2, 14), (0, l1)] [(0, 1), (2, 14)] (H3) (G4) (wZ L xs) (M := tbM73) rfl rfl trivial ?_
  refine e3_call (o := 0) (k := 74) (M2 := tbM74) (f1 := 3) (w1 := 65) (as := [(2, 14), (0, 1)]) (rest := []) (M := tbM73) rfl rfl rfl trivial (Nat.le_of_ble_eq_true rfl) (Nat.le_of_ble_eq_true rfl) (Nat.le_of_ble_eq_true rfl) ?_
  refine e3_mono (sR_readSum L xs _ _ _ _ h) (fun r H6 G7 h => ?_)
  obtain ⟨x8, rfl, h⟩ := h
  change e3_Ev _ _ _ _ 69 [(2, 14), (0, l1)] [(0, x8)] H6 G7 _
  exact e3_retb (M := tbM73) rfl rfl rfl h.1 ⟨_, rfl, h.2⟩
set_option maxRecDepth 100000 in
set_option maxHeartbeats 4000000 in
theorem sR_readGuard (L : Nat) (xs : Nat → Int32) (Q : Int → e3_H → e3_G → Prop)  (H : e3_H) (G : e3_G) (h : wR_readGuard Q  H G) : e3_Ev (wB L xs) 4 87 73 0 [(2, 14), (3, 0)] [] H G (e3_q0 Q) := by
  unfold wR_readGuard at h
  refine e3_K [0, 4] 4 [(2, 14), (3, 0)] [(2, 3)] (H) (G) (wZ L xs) (M := tbM73) rfl rfl ⟨trivial, trivial⟩ ?_
  refine e3_call (o := 0) (k := 25) (M2 := tbM25) (f1 := 0) (w1 := 0) (as := [(2, 3)]) (rest := []) (M := tbM73) rfl rfl rfl trivial (Nat.le_of_ble_eq_true rfl) (Nat.le_of_ble_eq_true rfl) (Nat.le_of_ble_eq_true rfl) ?_
  refine e3_mono (sT_step L xs _ _ _ h) (fun r H1 G2 h => ?_)
  obtain ⟨rfl, h⟩ := h
  change e3_Ev _ _ _ _ 7 [(2, 14), (3, 0)] [] H1 G2 _
  refine e3_K [0, 0] 9 [(2, 14), (3, 0)] [(0, 0), (2, 14)] (H1) (G2) (wZ L xs) (M := tbM73) rfl rfl trivial ?_
  refine e3_call (o := 0) (k := 74) (M2 := tbM74) (f1 := 3) (w1 := 65) (as := [(2, 14), (0, 0)]) (rest := []) (M := tbM73) rfl rfl rfl trivial (Nat.le_of_ble_eq_true rfl) (Nat.le_of_ble_eq_true rfl) (Nat.le_of_ble_eq_true rfl) ?_
  refine e3_mono (sR_readSum L xs _ _ _ _ h) (fun r H4 G5 h => ?_)
  obtain ⟨x6, rfl, h⟩ := h
  change e3_Ev _ _ _ _ 12 [(2, 14), (3, 0)] [(0, x6)] H4 G5 _
  refine e3_br (M := tbM73) rfl rfl rfl Iff.rfl (fun hc => ?_) (fun hc => ?_)
  · replace h := h.1 hc
    refine e3_K [0] 16 [(2, 14), (3, 0)] [(0, 0)] (H4) (G5) (wZ L xs) (M := tbM73) rfl rfl trivial ?_
    exact e3_retb (M := tbM73) rfl rfl rfl (Or.inl rfl) ⟨_, rfl, h⟩
  · replace h := h.2 hc
    refine e3_K [0, 4, 2, 0, 0, 0] 28 [(2, 14), (0, (H4 3 7))] [(0, 60), (0, (H4 3 7))] (H4) (G5) (wZ L xs) (M := tbM73) rfl rfl ⟨trivial, trivial, trivial⟩ ?_
    refine e3_br (M := tbM73) rfl rfl rfl Iff.rfl (fun hc => ?_) (fun hc => ?_)
    · replace h := h.1 hc
      exact sR_readGuard_49 L xs Q _ _ _ h
    · replace h := h.2 hc
      refine e3_K [0, 0] 34 [(2, 14), (0, (H4 3 7))] [(0, 61), (0, (H4 3 7))] (H4) (G5) (wZ L xs) (M := tbM73) rfl rfl trivial ?_
      refine e3_br (M := tbM73) rfl rfl rfl Iff.rfl (fun hc => ?_) (fun hc => ?_)
      · replace h := h.1 hc
        exact sR_readGuard_49 L xs Q _ _ _ h
      · replace h := h.2 hc
        refine e3_K [0, 0] 40 [(2, 14), (0, (H4 3 7))] [(0, 62), (0, (H4 3 7))] (H4) (G5) (wZ L xs) (M := tbM73) rfl rfl trivial ?_
        refine e3_br (M := tbM73) rfl rfl rfl Iff.rfl (fun hc => ?_) (fun hc => ?_)
        · replace h := h.1 hc
          exact sR_readGuard_49 L xs Q _ _ _ h
        · replace h := h.2 hc
          refine e3_K [0, 0] 45 [(2, 14), (0, (H4 3 7))] [(0, 2), (2, 14)] (H4) (G5) (wZ L xs) (M := tbM73) rfl rfl trivial ?_
          refine e3_call (o := 0) (k := 27) (M2 := tbM27) (f1 := 0) (w1 := 0) (as := [(2, 14), (0, 2)]) (rest := []) (M := tbM73) rfl rfl rfl trivial (Nat.le_of_ble_eq_true rfl) (Nat.le_of_ble_eq_true rfl) (Nat.le_of_ble_eq_true rfl) ?_
          refine e3_mono (sR_failHere L xs _ _ _ _ h) (fun r H7 G8 h => ?_)
          obtain ⟨x9, rfl, h⟩ := h
          change e3_Ev _ _ _ _ 48 [(2, 14), (0, (H4 3 7))] [(0, x9)] H7 G8 _
          exact e3_retb (M := tbM73) rfl rfl rfl h.1 ⟨_, rfl, h.2⟩
/-- LetterPost$Rule.addArg(II)V -/
def wU_addArg_28 (Q : e3_H → e3_G → Prop) (l0 : Int) (H : e3_H) (G : e3_G) : Prop :=
  (e3_ob G 9 l0) ∧ (e3_ob G 9 l0) ∧ ∀ H1 : e3_H, H1 = e3_up H l0 15 (e3_w32 ((H l0 15) + 1)) → Q H1 G
def wU_addArg (Q : e3_H → e3_G → Prop) (l0 : Int) (l1 : Int) (l2 : Int) (H : e3_H) (G : e3_G) : Prop :=
  (e3_ob G 9 l0) ∧ ((((H l0 15) : Int) < 3 → (e3_ob G 9 l0) ∧ (e3_ob G 9 l0) ∧ (e3_oa G 0 (H l0 16) (H l0 15)) ∧ ∀ H2 : e3_H, H2 = e3_up H (H l0 16) (H l0 15) l1 → (e3_ob G 9 l0) ∧ (e3_ob G 9 l0) ∧ (e3_oa G 0 (H2 l0 17) (H2 l0 15)) ∧ ∀ H6 : e3_H, H6 = e3_up H2 (H2 l0 17) (H2 l0 15) l2 → (wU_addArg_28 Q l0 H6 G)) ∧ (¬ (((H l0 15) : Int) < 3) → (wU_addArg_28 Q l0 H G)))
set_option maxRecDepth 100000 in
set_option maxHeartbeats 4000000 in
theorem sU_addArg_28 (L : Nat) (xs : Nat → Int32) (Q : e3_H → e3_G → Prop) (l0 : Int) (H : e3_H) (G : e3_G) (h : wU_addArg_28 Q l0 H G) : e3_Ev (wB L xs) 0 0 79 28 [(2, l0), (3, 0), (3, 0)] [] H G (e3_qv Q) := by
  unfold wU_addArg_28 at h
  obtain ⟨o2, o3, h⟩ := h
  refine e3_K [0, 0, 3, 0, 0, 3] 38 [(2, l0), (3, 0), (3, 0)] [] (e3_up H l0 15 (e3_w32 ((H l0 15) + 1))) (G) (wZ L xs) (M := tbM79) rfl rfl ⟨o2, ⟨o3, trivial⟩, trivial⟩ ?_
  generalize hH1 : (e3_up H l0 15 (e3_w32 ((H l0 15) + 1))) = H1
  replace h := h H1 hH1.symm
  exact e3_retv (M := tbM79) rfl rfl rfl ⟨rfl, h⟩
set_option maxRecDepth 100000 in
set_option maxHeartbeats 4000000 in
theorem sU_addArg (L : Nat) (xs : Nat → Int32) (Q : e3_H → e3_G → Prop) (l0 : Int) (l1 : Int) (l2 : Int) (H : e3_H) (G : e3_G) (h : wU_addArg Q l0 l1 l2 H G) : e3_Ev (wB L xs) 0 0 79 0 [(2, l0), (0, l1), (0, l2)] [] H G (e3_qv Q) := by
  unfold wU_addArg at h
  obtain ⟨o1, h⟩ := h
  refine e3_K [0, 3, 0] 5 [(2, l0), (0, l1), (0, l2)] [(0, 3), (0, (H l0 15))] (H) (G) (wZ L xs) (M := tbM79) rfl rfl ⟨o1, trivial⟩ ?_
  refine e3_br (M := tbM79) rfl rfl rfl Iff.rfl (fun hc => ?_) (fun hc => ?_)
  · replace h := h.1 hc
    obtain ⟨o3, o4, o5, h⟩ := h
    refine e3_K [0, 3, 0, 3, 0, 3] 18 [(2, l0), (0, l1), (0, l2)] [] (e3_up H (H l0 16) (H l0 15) l1) (G) (wZ L xs) (M := tbM79) rfl rfl ⟨o3, o4, o5, trivial⟩ ?_
    generalize hH2 : (e3_up H (H l0 16) (H l0 15) l1) = H2
    replace h := h H2 hH2.symm
    obtain ⟨o7, o8, o9, h⟩ := h
    refine e3_K [0, 3, 0, 3, 0, 3] 28 [(2, l0), (0, l1), (0, l2)] [] (e3_up H2 (H2 l0 17) (H2 l0 15) l2) (G) (wZ L xs) (M := tbM79) rfl rfl ⟨o7, o8, o9, trivial⟩ ?_
    generalize hH6 : (e3_up H2 (H2 l0 17) (H2 l0 15) l2) = H6
    replace h := h H6 hH6.symm
    refine e3_fgt [true, false, false] ?_
    exact sU_addArg_28 L xs Q _ _ _ h
  · replace h := h.2 hc
    refine e3_fgt [true, false, false] ?_
    exact sU_addArg_28 L xs Q _ _ _ h
/-- LetterPost$Reader.readCall()Z -/
def wR_readCall_147 (Q : Int → e3_H → e3_G → Prop)  (H : e3_H) (G : e3_G) : Prop :=
  (wR_expect (fun x3 H1 G2 => ((x3 : Int) = 0 ∨ x3 = 1) ∧ Q x3 H1 G2) 41 H G)
def wR_readCall_68 (Q : Int → e3_H → e3_G → Prop) (k45 : Int → e3_H → e3_G → Prop) (l1 : Int) (H : e3_H) (G : e3_G) : Prop :=
  (wT_step (fun H1 G2 => ((((H1 3 7) : Int) = 258 → (e3_ob G2 9 (H1 14 7)) ∧ (wU_nameNumber (fun x6 H4 G5 => (((x6 : Int) < 0 → (wR_failHere (fun x9 H7 G8 => ((x9 : Int) = 0 ∨ x9 = 1) ∧ Q x9 H7 G8) 4 H4 G5)) ∧ (¬ ((x6 : Int) < 0) → (e3_ob G5 9 (H4 14 7)) ∧ (wU_addArg (fun H10 G11 => (wT_step (fun H13 G14 => (k45 (e3_w32 (l1 + 1)) H13 G14)) H10 G11)) (H4 14 7) x6 (H4 3 8) H4 G5)))) (H1 14 7) (H1 3 9) H1 G2)) ∧ (¬ (((H1 3 7) : Int) = 258) → (wR_failHere (fun x18 H16 G17 => ((x18 : Int) = 0 ∨ x18 = 1) ∧ Q x18 H16 G17) 2 H1 G2)))) H G)
def wR_readCall_45 (Q : Int → e3_H → e3_G → Prop) : Nat → Int → e3_H → e3_G → Prop
  | 0, _, _, _ => False
  | nn + 1, l1, H, G => (((1600 : Int) < l1 → (wR_readCall_147 Q H G)) ∧ (¬ ((1600 : Int) < l1) → (((l1 : Int) = 0 → (wR_readCall_68 Q (fun l1 H G => wR_readCall_45 Q nn l1 H G) l1 H G)) ∧ (¬ ((l1 : Int) = 0) → ((((H 3 7) : Int) = 44 → (wR_readCall_68 Q (fun l1 H G => wR_readCall_45 Q nn l1 H G) l1 H G)) ∧ (¬ (((H 3 7) : Int) = 44) → (wR_readCall_147 Q H G)))))))
def wR_readCall (Q : Int → e3_H → e3_G → Prop)  (H : e3_H) (G : e3_G) : Prop :=
  (e3_ob G 9 (H 14 7)) ∧ ∀ H1 : e3_H, H1 = e3_up H (H 14 7) 11 2 → (e3_ob G 9 (H1 14 7)) ∧ ∀ H3 : e3_H, H3 = e3_up H1 (H1 14 7) 13 (H1 3 9) → (e3_ob G 9 (H3 14 7)) ∧ ∀ H5 : e3_H, H5 = e3_up H3 (H3 14 7) 14 (H3 3 8) → (wT_step (fun H7 G8 => (∃ n, wR_readCall_45 Q n 0 H7 G8)) H5 G)
set_option maxRecDepth 100000 in
set_option maxHeartbeats 4000000 in
theorem sR_readCall_147 (L : Nat) (xs : Nat → Int32) (Q : Int → e3_H → e3_G → Prop)  (H : e3_H) (G : e3_G) (h : wR_readCall_147 Q  H G) : e3_Ev (wB L xs) 2 42 78 147 [(2, 14), (3, 0), (3, 0)] [] H G (e3_q0 Q) := by
  unfold wR_readCall_147 at h
  refine e3_K [0, 0] 150 [(2, 14), (3, 0), (3, 0)] [(0, 41), (2, 14)] (H) (G) (wZ L xs) (M := tbM78) rfl rfl trivial ?_
  refine e3_call (o := 0) (k := 38) (M2 := tbM38) (f1 := 1) (w1 := 21) (as := [(2, 14), (0, 41)]) (rest := []) (M := tbM78) rfl rfl rfl trivial (Nat.le_of_ble_eq_true rfl) (Nat.le_of_ble_eq_true rfl) (Nat.le_of_ble_eq_true rfl) ?_
  refine e3_mono (sR_expect L xs _ _ _ _ h) (fun r H1 G2 h => ?_)
  obtain ⟨x3, rfl, h⟩ := h
  change e3_Ev _ _ _ _ 153 [(2, 14), (3, 0), (3, 0)] [(0, x3)] H1 G2 _
  exact e3_retb (M := tbM78) rfl rfl rfl h.1 ⟨_, rfl, h.2⟩
set_option maxRecDepth 100000 in
set_option maxHeartbeats 4000000 in
theorem sR_readCall_68 (L : Nat) (xs : Nat → Int32) (Q : Int → e3_H → e3_G → Prop) (k45 : Int → e3_H → e3_G → Prop) (hk45 : ∀ (l1 : Int) (H : e3_H) (G : e3_G), k45 l1 H G → e3_Ev (wB L xs) 2 42 78 45 [(2, 14), (0, l1), (3, 0)] [] H G (e3_q0 Q)) (l1 : Int) (H : e3_H) (G : e3_G) (h : wR_readCall_68 Q k45 l1 H G) : e3_Ev (wB L xs) 2 42 78 68 [(2, 14), (0, l1), (3, 0)] [] H G (e3_q0 Q) := by
  unfold wR_readCall_68 at h
  refine e3_K [0, 4] 72 [(2, 14), (0, l1), (3, 0)] [(2, 3)] (H) (G) (wZ L xs) (M := tbM78) rfl rfl ⟨trivial, trivial⟩ ?_
  refine e3_call (o := 0) (k := 25) (M2 := tbM25) (f1 := 0) (w1 := 0) (as := [(2, 3)]) (rest := []) (M := tbM78) rfl rfl rfl trivial (Nat.le_of_ble_eq_true rfl) (Nat.le_of_ble_eq_true rfl) (Nat.le_of_ble_eq_true rfl) ?_
  refine e3_mono (sT_step L xs _ _ _ h) (fun r H1 G2 h => ?_)
  obtain ⟨rfl, h⟩ := h
  change e3_Ev _ _ _ _ 75 [(2, 14), (0, l1), (3, 0)] [] H1 G2 _
  refine e3_K [0, 4, 2, 0] 85 [(2, 14), (0, l1), (3, 0)] [(0, 258), (0, (H1 3 7))] (H1) (G2) (wZ L xs) (M := tbM78) rfl rfl ⟨trivial, trivial, trivial⟩ ?_
  refine e3_br (M := tbM78) rfl rfl rfl Iff.rfl (fun hc => ?_) (fun hc => ?_)
  · replace h := h.1 hc
    refine e3_K [0, 2, 0, 4, 2] 105 [(2, 14), (0, l1), (3, 0)] [(1, (H1 3 9)), (2, (H1 14 7))] (H1) (G2) (wZ L xs) (M := tbM78) rfl rfl ⟨trivial, trivial, trivial, trivial⟩ ?_
    obtain ⟨oz, h⟩ := h
    refine e3_call (o := 1) (k := 52) (M2 := tbM52) (f1 := 0) (w1 := 0) (as := [(2, (H1 14 7)), (1, (H1 3 9))]) (rest := []) (M := tbM78) rfl rfl rfl oz (Nat.le_of_ble_eq_true rfl) (Nat.le_of_ble_eq_true rfl) (Nat.le_of_ble_eq_true rfl) ?_
    refine e3_mono (sU_nameNumber L xs _ _ _ _ _ h) (fun r H4 G5 h => ?_)
    obtain ⟨x6, rfl, h⟩ := h
    change e3_Ev _ _ _ _ 108 [(2, 14), (0, l1), (3, 0)] [(0, x6)] H4 G5 _
    refine e3_K [0, 0] 110 [(2, 14), (0, l1), (0, x6)] [(0, x6)] (H4) (G5) (wZ L xs) (M := tbM78) rfl rfl trivial ?_
    refine e3_br (M := tbM78) rfl rfl rfl Iff.rfl (fun hc => ?_) (fun hc => ?_)
    · replace h := h.1 hc
      refine e3_K [0, 0] 115 [(2, 14), (0, l1), (0, x6)] [(0, 4), (2, 14)] (H4) (G5) (wZ L xs) (M := tbM78) rfl rfl trivial ?_
      refine e3_call (o := 0) (k := 27) (M2 := tbM27) (f1 := 0) (w1 := 0) (as := [(2, 14), (0, 4)]) (rest := []) (M := tbM78) rfl rfl rfl trivial (Nat.le_of_ble_eq_true rfl) (Nat.le_of_ble_eq_true rfl) (Nat.le_of_ble_eq_true rfl) ?_
      refine e3_mono (sR_failHere L xs _ _ _ _ h) (fun r H7 G8 h => ?_)
      obtain ⟨x9, rfl, h⟩ := h
      change e3_Ev _ _ _ _ 118 [(2, 14), (0, l1), (0, x6)] [(0, x9)] H7 G8 _
      exact e3_retb (M := tbM78) rfl rfl rfl h.1 ⟨_, rfl, h.2⟩
    · replace h := h.2 hc
      refine e3_K [0, 2, 0, 0, 4, 2] 131 [(2, 14), (0, l1), (0, x6)] [(0, (H4 3 8)), (0, x6), (2, (H4 14 7))] (H4) (G5) (wZ L xs) (M := tbM78) rfl rfl ⟨trivial, trivial, trivial, trivial⟩ ?_
      obtain ⟨oz, h⟩ := h
      refine e3_call (o := 1) (k := 79) (M2 := tbM79) (f1 := 0) (w1 := 0) (as := [(2, (H4 14 7)), (0, x6), (0, (H4 3 8))]) (rest := []) (M := tbM78) rfl rfl rfl oz (Nat.le_of_ble_eq_true rfl) (Nat.le_of_ble_eq_true rfl) (Nat.le_of_ble_eq_true rfl) ?_
      refine e3_mono (sU_addArg L xs _ _ _ _ _ _ h) (fun r H10 G11 h => ?_)
      obtain ⟨rfl, h⟩ := h
      change e3_Ev _ _ _ _ 134 [(2, 14), (0, l1), (0, x6)] [] H10 G11 _
      refine e3_K [0, 4] 138 [(2, 14), (0, l1), (0, x6)] [(2, 3)] (H10) (G11) (wZ L xs) (M := tbM78) rfl rfl ⟨trivial, trivial⟩ ?_
      refine e3_call (o := 0) (k := 25) (M2 := tbM25) (f1 := 0) (w1 := 0) (as := [(2, 3)]) (rest := []) (M := tbM78) rfl rfl rfl trivial (Nat.le_of_ble_eq_true rfl) (Nat.le_of_ble_eq_true rfl) (Nat.le_of_ble_eq_true rfl) ?_
      refine e3_mono (sT_step L xs _ _ _ h) (fun r H13 G14 h => ?_)
      obtain ⟨rfl, h⟩ := h
      change e3_Ev _ _ _ _ 141 [(2, 14), (0, l1), (0, x6)] [] H13 G14 _
      refine e3_K [0, 0] 45 [(2, 14), (0, (e3_w32 (l1 + 1))), (0, x6)] [] (H13) (G14) (wZ L xs) (M := tbM78) rfl rfl trivial ?_
      refine e3_fgt [true, true, false] ?_
      exact hk45 _ _ _ h
  · replace h := h.2 hc
    refine e3_K [0, 0] 90 [(2, 14), (0, l1), (3, 0)] [(0, 2), (2, 14)] (H1) (G2) (wZ L xs) (M := tbM78) rfl rfl trivial ?_
    refine e3_call (o := 0) (k := 27) (M2 := tbM27) (f1 := 0) (w1 := 0) (as := [(2, 14), (0, 2)]) (rest := []) (M := tbM78) rfl rfl rfl trivial (Nat.le_of_ble_eq_true rfl) (Nat.le_of_ble_eq_true rfl) (Nat.le_of_ble_eq_true rfl) ?_
    refine e3_mono (sR_failHere L xs _ _ _ _ h) (fun r H16 G17 h => ?_)
    obtain ⟨x18, rfl, h⟩ := h
    change e3_Ev _ _ _ _ 93 [(2, 14), (0, l1), (3, 0)] [(0, x18)] H16 G17 _
    exact e3_retb (M := tbM78) rfl rfl rfl h.1 ⟨_, rfl, h.2⟩
set_option maxRecDepth 100000 in
set_option maxHeartbeats 4000000 in
theorem sR_readCall_45 (L : Nat) (xs : Nat → Int32) (Q : Int → e3_H → e3_G → Prop) : ∀ (nl : Nat) (l1 : Int) (H : e3_H) (G : e3_G), wR_readCall_45 Q nl l1 H G → e3_Ev (wB L xs) 2 42 78 45 [(2, 14), (0, l1), (3, 0)] [] H G (e3_q0 Q) := by
  intro nl
  induction nl with
  | zero => intro l1 H G h; exact h.elim
  | succ nn ih =>
    intro l1 H G h
    have h : (((1600 : Int) < l1 → (wR_readCall_147 Q H G)) ∧ (¬ ((1600 : Int) < l1) → (((l1 : Int) = 0 → (wR_readCall_68 Q (fun l1 H G => wR_readCall_45 Q nn l1 H G) l1 H G)) ∧ (¬ ((l1 : Int) = 0) → ((((H 3 7) : Int) = 44 → (wR_readCall_68 Q (fun l1 H G => wR_readCall_45 Q nn l1 H G) l1 H G)) ∧ (¬ (((H 3 7) : Int) = 44) → (wR_readCall_147 Q H G))))))) := h
    refine e3_K [0, 0] 49 [(2, 14), (0, l1), (3, 0)] [(0, 1600), (0, l1)] (H) (G) (wZ L xs) (M := tbM78) rfl rfl trivial ?_
    refine e3_br (M := tbM78) rfl rfl rfl Iff.rfl (fun hc => ?_) (fun hc => ?_)
    · replace h := h.1 hc
      refine e3_fgt [true, false, false] ?_
      exact sR_readCall_147 L xs Q _ _ h
    · replace h := h.2 hc
      refine e3_K [0] 53 [(2, 14), (0, l1), (3, 0)] [(0, l1)] (H) (G) (wZ L xs) (M := tbM78) rfl rfl trivial ?_
      refine e3_br (M := tbM78) rfl rfl rfl Iff.rfl (fun hc => ?_) (fun hc => ?_)
      · replace h := h.1 hc
        exact sR_readCall_68 L xs Q (fun l1 H G => wR_readCall_45 Q nn l1 H G) ih _ _ _ h
      · replace h := h.2 hc
        refine e3_K [0, 4, 2, 0] 65 [(2, 14), (0, l1), (3, 0)] [(0, 44), (0, (H 3 7))] (H) (G) (wZ L xs) (M := tbM78) rfl rfl ⟨trivial, trivial, trivial⟩ ?_
        refine e3_br (M := tbM78) rfl rfl rfl Iff.rfl (fun hc => ?_) (fun hc => ?_)
        · replace h := h.1 hc
          exact sR_readCall_68 L xs Q (fun l1 H G => wR_readCall_45 Q nn l1 H G) ih _ _ _ h
        · replace h := h.2 hc
          refine e3_fgt [true, false, false] ?_
          exact sR_readCall_147 L xs Q _ _ h
set_option maxRecDepth 100000 in
set_option maxHeartbeats 4000000 in
theorem sR_readCall (L : Nat) (xs : Nat → Int32) (Q : Int → e3_H → e3_G → Prop)  (H : e3_H) (G : e3_G) (h : wR_readCall Q  H G) : e3_Ev (wB L xs) 2 42 78 0 [(2, 14), (3, 0), (3, 0)] [] H G (e3_q0 Q) := by
  unfold wR_readCall at h
  obtain ⟨o2, h⟩ := h
  refine e3_K [0, 2, 0, 3] 8 [(2, 14), (3, 0), (3, 0)] [] (e3_up H (H 14 7) 11 2) (G) (wZ L xs) (M := tbM78) rfl rfl ⟨trivial, ⟨o2, trivial⟩, trivial⟩ ?_
  generalize hH1 : (e3_up H (H 14 7) 11 2) = H1
  replace h := h H1 hH1.symm
  obtain ⟨o4, h⟩ := h
  refine e3_K [0, 2, 0, 4, 2, 3] 22 [(2, 14), (3, 0), (3, 0)] [] (e3_up H1 (H1 14 7) 13 (H1 3 9)) (G) (wZ L xs) (M := tbM78) rfl rfl ⟨trivial, trivial, trivial, ⟨o4, trivial⟩, trivial⟩ ?_
  generalize hH3 : (e3_up H1 (H1 14 7) 13 (H1 3 9)) = H3
  replace h := h H3 hH3.symm
  obtain ⟨o6, h⟩ := h
  refine e3_K [0, 2, 0, 4, 2, 3] 36 [(2, 14), (3, 0), (3, 0)] [] (e3_up H3 (H3 14 7) 14 (H3 3 8)) (G) (wZ L xs) (M := tbM78) rfl rfl ⟨trivial, trivial, trivial, ⟨o6, trivial⟩, trivial⟩ ?_
  generalize hH5 : (e3_up H3 (H3 14 7) 14 (H3 3 8)) = H5
  replace h := h H5 hH5.symm
  refine e3_K [0, 4] 40 [(2, 14), (3, 0), (3, 0)] [(2, 3)] (H5) (G) (wZ L xs) (M := tbM78) rfl rfl ⟨trivial, trivial⟩ ?_
  refine e3_call (o := 0) (k := 25) (M2 := tbM25) (f1 := 0) (w1 := 0) (as := [(2, 3)]) (rest := []) (M := tbM78) rfl rfl rfl trivial (Nat.le_of_ble_eq_true rfl) (Nat.le_of_ble_eq_true rfl) (Nat.le_of_ble_eq_true rfl) ?_
  refine e3_mono (sT_step L xs _ _ _ h) (fun r H7 G8 h => ?_)
  obtain ⟨rfl, h⟩ := h
  change e3_Ev _ _ _ _ 43 [(2, 14), (3, 0), (3, 0)] [] H7 G8 _
  refine e3_K [0, 0] 45 [(2, 14), (0, 0), (3, 0)] [] (H7) (G8) (wZ L xs) (M := tbM78) rfl rfl trivial ?_
  obtain ⟨nl, h⟩ := h
  exact sR_readCall_45 L xs Q nl _ _ _ h
/-- LetterPost$Reader.readAnswer()Z -/
def wR_readAnswer_94 (Q : Int → e3_H → e3_G → Prop) (s0 : Int) (H : e3_H) (G : e3_G) : Prop :=
  ((s0 : Int) = 0 ∨ s0 = 1) ∧ Q s0 H G
def wR_readAnswer_41 (Q : Int → e3_H → e3_G → Prop) (s0 : Int) (H : e3_H) (G : e3_G) : Prop :=
  ((s0 : Int) = 0 ∨ s0 = 1) ∧ Q s0 H G
def wR_readAnswer (Q : Int → e3_H → e3_G → Prop)  (H : e3_H) (G : e3_G) : Prop :=
  ((((H 3 7) : Int) = 258 → (wT_typeBehind (fun x3 H1 G2 => (((x3 : Int) = 40 → (wR_readCall (fun x6 H4 G5 => ((x6 : Int) = 0 ∨ x6 = 1) ∧ Q x6 H4 G5) H1 G2)) ∧ (¬ ((x3 : Int) = 40) → (e3_ob G2 9 (H1 14 7)) ∧ ∀ H7 : e3_H, H7 = e3_up H1 (H1 14 7) 11 1 → (wR_readWholeName (fun x11 H9 G10 => (e3_ob G10 9 (H7 14 7)) ∧ ∀ H12 : e3_H, H12 = e3_up H9 (H7 14 7) 12 x11 → (e3_ob G10 9 (H12 14 7)) ∧ ((((H12 (H12 14 7) 12) : Int) < 0 → (wR_readAnswer_94 Q 0 H12 G10)) ∧ (¬ (((H12 (H12 14 7) 12) : Int) < 0) → (wR_readAnswer_94 Q 1 H12 G10)))) H7 G2)))) 1 H G)) ∧ (¬ (((H 3 7) : Int) = 258) → (wR_readNumber (fun x17 H15 G16 => (e3_ob G16 9 (H 14 7)) ∧ ∀ H18 : e3_H, H18 = e3_up H15 (H 14 7) 12 x17 → (e3_ob G16 9 (H18 14 7)) ∧ ((((H18 (H18 14 7) 12) : Int) = ((-2147483648 : Int32).toInt) → (wR_readAnswer_41 Q 0 H18 G16)) ∧ (¬ (((H18 (H18 14 7) 12) : Int) = ((-2147483648 : Int32).toInt)) → (wR_readAnswer_41 Q 1 H18 G16)))) H G)))
set_option maxRecDepth 100000 in
set_option maxHeartbeats 4000000 in
theorem sR_readAnswer_94 (L : Nat) (xs : Nat → Int32) (Q : Int → e3_H → e3_G → Prop) (s0 : Int) (H : e3_H) (G : e3_G) (h : wR_readAnswer_94 Q s0 H G) : e3_Ev (wB L xs) 3 64 77 94 [(3, 0)] [(0, s0)] H G (e3_q0 Q) := by
  unfold wR_readAnswer_94 at h
  exact e3_retb (M := tbM77) rfl rfl rfl h.1 ⟨_, rfl, h.2⟩
set_option maxRecDepth 100000 in
set_option maxHeartbeats 4000000 in
theorem sR_readAnswer_41 (L : Nat) (xs : Nat → Int32) (Q : Int → e3_H → e3_G → Prop) (s0 : Int) (H : e3_H) (G : e3_G) (h : wR_readAnswer_41 Q s0 H G) : e3_Ev (wB L xs) 3 64 77 41 [(3, 0)] [(0, s0)] H G (e3_q0 Q) := by
  unfold wR_readAnswer_41 at h
  exact e3_retb (M := tbM77) rfl rfl rfl h.1 ⟨_, rfl, h.2⟩
set_option maxRecDepth 100000 in
set_option maxHeartbeats 4000000 in
theorem sR_readAnswer (L : Nat) (xs : Nat → Int32) (Q : Int → e3_H → e3_G → Prop)  (H : e3_H) (G : e3_G) (h : wR_readAnswer Q  H G) : e3_Ev (wB L xs) 3 64 77 0 [(2, 14)] [] H G (e3_q0 Q) := by
  unfold wR_readAnswer at h
  refine e3_K [0, 4, 2, 0] 10 [(2, 14)] [(0, 258), (0, (H 3 7))] (H) (G) (wZ L xs) (M := tbM77) rfl rfl ⟨trivial, trivial, trivial⟩ ?_
  refine e3_br (M := tbM77) rfl rfl rfl Iff.rfl (fun hc => ?_) (fun hc => ?_)
  · replace h := h.1 hc
    refine e3_K [0, 4, 0] 47 [(2, 14)] [(0, 1), (2, 3)] (H) (G) (wZ L xs) (M := tbM77) rfl rfl ⟨trivial, trivial⟩ ?_
    refine e3_call (o := 0) (k := 57) (M2 := tbM57) (f1 := 1) (w1 := 21) (as := [(2, 3), (0, 1)]) (rest := []) (M := tbM77) rfl rfl rfl trivial (Nat.le_of_ble_eq_true rfl) (Nat.le_of_ble_eq_true rfl) (Nat.le_of_ble_eq_true rfl) ?_
    refine e3_mono (sT_typeBehind L xs _ _ _ _ h) (fun r H1 G2 h => ?_)
    obtain ⟨x3, rfl, h⟩ := h
    change e3_Ev _ _ _ _ 50 [(2, 14)] [(0, x3)] H1 G2 _
    refine e3_K [0] 52 [(2, 14)] [(0, 40), (0, x3)] (H1) (G2) (wZ L xs) (M := tbM77) rfl rfl trivial ?_
    refine e3_br (M := tbM77) rfl rfl rfl Iff.rfl (fun hc => ?_) (fun hc => ?_)
    · replace h := h.1 hc
      refine e3_K [0] 56 [(2, 14)] [(2, 14)] (H1) (G2) (wZ L xs) (M := tbM77) rfl rfl trivial ?_
      refine e3_call (o := 0) (k := 78) (M2 := tbM78) (f1 := 2) (w1 := 42) (as := [(2, 14)]) (rest := []) (M := tbM77) rfl rfl rfl trivial (Nat.le_of_ble_eq_true rfl) (Nat.le_of_ble_eq_true rfl) (Nat.le_of_ble_eq_true rfl) ?_
      refine e3_mono (sR_readCall L xs _ _ _ h) (fun r H4 G5 h => ?_)
      obtain ⟨x6, rfl, h⟩ := h
      change e3_Ev _ _ _ _ 59 [(2, 14)] [(0, x6)] H4 G5 _
      exact e3_retb (M := tbM77) rfl rfl rfl h.1 ⟨_, rfl, h.2⟩
    · replace h := h.2 hc
      obtain ⟨o8, h⟩ := h
      refine e3_K [0, 2, 0, 3] 68 [(2, 14)] [] (e3_up H1 (H1 14 7) 11 1) (G2) (wZ L xs) (M := tbM77) rfl rfl ⟨trivial, ⟨o8, trivial⟩, trivial⟩ ?_
      generalize hH7 : (e3_up H1 (H1 14 7) 11 1) = H7
      replace h := h H7 hH7.symm
      refine e3_K [0, 2, 0] 73 [(2, 14)] [(2, 14), (2, (H7 14 7))] (H7) (G2) (wZ L xs) (M := tbM77) rfl rfl ⟨trivial, trivial⟩ ?_
      refine e3_call (o := 0) (k := 76) (M2 := tbM76) (f1 := 1) (w1 := 23) (as := [(2, 14)]) (rest := [(2, (H7 14 7))]) (M := tbM77) rfl rfl rfl trivial (Nat.le_of_ble_eq_true rfl) (Nat.le_of_ble_eq_true rfl) (Nat.le_of_ble_eq_true rfl) ?_
      refine e3_mono (sR_readWholeName L xs _ _ _ h) (fun r H9 G10 h => ?_)
      obtain ⟨x11, rfl, h⟩ := h
      change e3_Ev _ _ _ _ 76 [(2, 14)] [(0, x11), (2, (H7 14 7))] H9 G10 _
      obtain ⟨o13, h⟩ := h
      refine e3_K [3] 79 [(2, 14)] [] (e3_up H9 (H7 14 7) 12 x11) (G10) (wZ L xs) (M := tbM77) rfl rfl ⟨⟨o13, trivial⟩, trivial⟩ ?_
      generalize hH12 : (e3_up H9 (H7 14 7) 12 x11) = H12
      replace h := h H12 hH12.symm
      obtain ⟨o14, h⟩ := h
      refine e3_K [0, 2, 3] 86 [(2, 14)] [(0, (H12 (H12 14 7) 12))] (H12) (G10) (wZ L xs) (M := tbM77) rfl rfl ⟨trivial, o14, trivial⟩ ?_
      refine e3_br (M := tbM77) rfl rfl rfl Iff.rfl (fun hc => ?_) (fun hc => ?_)
      · replace h := h.1 hc
        refine e3_K [0] 94 [(2, 14)] [(0, 0)] (H12) (G10) (wZ L xs) (M := tbM77) rfl rfl trivial ?_
        refine e3_fgt [false] ?_
        exact sR_readAnswer_94 L xs Q _ _ _ h
      · replace h := h.2 hc
        refine e3_K [0, 0] 94 [(2, 14)] [(0, 1)] (H12) (G10) (wZ L xs) (M := tbM77) rfl rfl trivial ?_
        refine e3_fgt [false] ?_
        exact sR_readAnswer_94 L xs Q _ _ _ h
  · replace h := h.2 hc
    refine e3_K [0, 2, 0] 18 [(2, 14)] [(2, 14), (2, (H 14 7))] (H) (G) (wZ L xs) (M := tbM77) rfl rfl ⟨trivial, trivial⟩ ?_
    refine e3_call (o := 0) (k := 63) (M2 := tbM63) (f1 := 1) (w1 := 21) (as := [(2, 14)]) (rest := [(2, (H 14 7))]) (M := tbM77) rfl rfl rfl trivial (Nat.le_of_ble_eq_true rfl) (Nat.le_of_ble_eq_true rfl) (Nat.le_of_ble_eq_true rfl) ?_
    refine e3_mono (sR_readNumber L xs _ _ _ h) (fun r H15 G16 h => ?_)
    obtain ⟨x17, rfl, h⟩ := h
    change e3_Ev _ _ _ _ 21 [(2, 14)] [(0, x17), (2, (H 14 7))] H15 G16 _
    obtain ⟨o19, h⟩ := h
    refine e3_K [3] 24 [(2, 14)] [] (e3_up H15 (H 14 7) 12 x17) (G16) (wZ L xs) (M := tbM77) rfl rfl ⟨⟨o19, trivial⟩, trivial⟩ ?_
    generalize hH18 : (e3_up H15 (H 14 7) 12 x17) = H18
    replace h := h H18 hH18.symm
    obtain ⟨o20, h⟩ := h
    refine e3_K [0, 2, 3, 2] 33 [(2, 14)] [(0, ((-2147483648 : Int32).toInt)), (0, (H18 (H18 14 7) 12))] (H18) (G16) (wZ L xs) (M := tbM77) rfl rfl ⟨trivial, o20, trivial, trivial⟩ ?_
    refine e3_br (M := tbM77) rfl rfl rfl Iff.rfl (fun hc => ?_) (fun hc => ?_)
    · replace h := h.1 hc
      refine e3_K [0] 41 [(2, 14)] [(0, 0)] (H18) (G16) (wZ L xs) (M := tbM77) rfl rfl trivial ?_
      refine e3_fgt [false] ?_
      exact sR_readAnswer_41 L xs Q _ _ _ h
    · replace h := h.2 hc
      refine e3_K [0, 0] 41 [(2, 14)] [(0, 1)] (H18) (G16) (wZ L xs) (M := tbM77) rfl rfl trivial ?_
      refine e3_fgt [false] ?_
      exact sR_readAnswer_41 L xs Q _ _ _ h
/-- LetterPost$Function.addRule(LLetterPost$Rule;)V -/
def wF_addRule_29 (Q : e3_H → e3_G → Prop)  (H : e3_H) (G : e3_G) : Prop :=
  Q H G
def wF_addRule (Q : e3_H → e3_G → Prop) (l0 : Int) (l1 : Int) (H : e3_H) (G : e3_G) : Prop :=
  (e3_ob G 8 l0) ∧ ((((H l0 3) : Int) < 16 → (e3_ob G 8 l0) ∧ (e3_ob G 8 l0) ∧ (e3_oa G 5 (H l0 4) (H l0 3)) ∧ ((l1 : Int) < 0 ∨ e3_ob G 9 l1) ∧ ∀ H2 : e3_H, H2 = e3_up H (H l0 4) (H l0 3) l1 → (e3_ob G 8 l0) ∧ (e3_ob G 8 l0) ∧ ∀ H7 : e3_H, H7 = e3_up H2 l0 3 (e3_w32 ((H2 l0 3) + 1)) → (wF_addRule_29 Q H7 G)) ∧ (¬ (((H l0 3) : Int) < 16) → (wF_addRule_29 Q H G)))
set_option maxRecDepth 100000 in
set_option maxHeartbeats 4000000 in
theorem sF_addRule_29 (L : Nat) (xs : Nat → Int32) (Q : e3_H → e3_G → Prop)  (H : e3_H) (G : e3_G) (h : wF_addRule_29 Q  H G) : e3_Ev (wB L xs) 0 0 80 29 [(3, 0), (3, 0)] [] H G (e3_qv Q) := by
  unfold wF_addRule_29 at h
  exact e3_retv (M := tbM80) rfl rfl rfl ⟨rfl, h⟩
set_option maxRecDepth 100000 in
set_option maxHeartbeats 4000000 in
theorem sF_addRule (L : Nat) (xs : Nat → Int32) (Q : e3_H → e3_G → Prop) (l0 : Int) (l1 : Int) (H : e3_H) (G : e3_G) (h : wF_addRule Q l0 l1 H G) : e3_Ev (wB L xs) 0 0 80 0 [(2, l0), (2, l1)] [] H G (e3_qv Q) := by
  unfold wF_addRule at h
  obtain ⟨o1, h⟩ := h
  refine e3_K [0, 3, 0] 6 [(2, l0), (2, l1)] [(0, 16), (0, (H l0 3))] (H) (G) (wZ L xs) (M := tbM80) rfl rfl ⟨o1, trivial⟩ ?_
  refine e3_br (M := tbM80) rfl rfl rfl Iff.rfl (fun hc => ?_) (fun hc => ?_)
  · replace h := h.1 hc
    obtain ⟨o3, o4, o5, o6, h⟩ := h
    refine e3_K [0, 3, 0, 3, 0, 8] 19 [(2, l0), (2, l1)] [] (e3_up H (H l0 4) (H l0 3) l1) (G) (wZ L xs) (M := tbM80) rfl rfl ⟨o3, o4, ⟨o5, o6⟩, trivial⟩ ?_
    generalize hH2 : (e3_up H (H l0 4) (H l0 3) l1) = H2
    replace h := h H2 hH2.symm
    obtain ⟨o8, o9, h⟩ := h
    refine e3_K [0, 0, 3, 0, 0, 3] 29 [(2, l0), (2, l1)] [] (e3_up H2 l0 3 (e3_w32 ((H2 l0 3) + 1))) (G) (wZ L xs) (M := tbM80) rfl rfl ⟨o8, ⟨o9, trivial⟩, trivial⟩ ?_
    generalize hH7 : (e3_up H2 l0 3 (e3_w32 ((H2 l0 3) + 1))) = H7
    replace h := h H7 hH7.symm
    refine e3_fgt [false, false] ?_
    exact sF_addRule_29 L xs Q _ _ h
  · replace h := h.2 hc
    refine e3_fgt [false, false] ?_
    exact sF_addRule_29 L xs Q _ _ h
/-- LetterPost$Reader.readRules()Z -/
def wR_readRules_125 (Q : Int → e3_H → e3_G → Prop)  (H : e3_H) (G : e3_G) : Prop :=
  (wR_expect (fun x3 H1 G2 => ((x3 : Int) = 0 ∨ x3 = 1) ∧ Q x3 H1 G2) 125 H G)
def wR_readRules_106 (Q : Int → e3_H → e3_G → Prop)  (H : e3_H) (G : e3_G) : Prop :=
  Q 0 H G
def wR_readRules_81 (Q : Int → e3_H → e3_G → Prop) (k2 : Int → e3_H → e3_G → Prop) (l1 : Int) (H : e3_H) (G : e3_G) : Prop :=
  (wR_expect (fun x3 H1 G2 => (((x3 : Int) = 0 → (wR_readRules_106 Q H1 G2)) ∧ (¬ ((x3 : Int) = 0) → (wR_readAnswer (fun x6 H4 G5 => (((x6 : Int) = 0 → (wR_readRules_106 Q H4 G5)) ∧ (¬ ((x6 : Int) = 0) → (wR_expect (fun x9 H7 G8 => (((x9 : Int) = 0 → (wR_readRules_106 Q H7 G8)) ∧ (¬ ((x9 : Int) = 0) → (e3_ob G8 8 (H7 14 6)) ∧ (wF_addRule (fun H10 G11 => (k2 (e3_w32 (l1 + 1)) H10 G11)) (H7 14 6) (H7 14 7) H7 G8)))) 59 H4 G5)))) H1 G2)))) 58 H G)
def wR_readRules_51 (Q : Int → e3_H → e3_G → Prop) (k2 : Int → e3_H → e3_G → Prop) (l1 : Int) (s0 : Int) (H : e3_H) (G : e3_G) : Prop :=
  (wR_readPatterns (fun x3 H1 G2 => (((x3 : Int) = 0 → Q 0 H1 G2) ∧ (¬ ((x3 : Int) = 0) → ((((H1 3 7) : Int) = 273 → (wR_readGuard (fun x6 H4 G5 => (((x6 : Int) = 0 → Q 0 H4 G5) ∧ (¬ ((x6 : Int) = 0) → (wR_readRules_81 Q k2 l1 H4 G5)))) H1 G2)) ∧ (¬ (((H1 3 7) : Int) = 273) → (wR_readRules_81 Q k2 l1 H1 G2)))))) s0 H G)
def wR_readRules_2 (Q : Int → e3_H → e3_G → Prop) : Nat → Int → e3_H → e3_G → Prop
  | 0, _, _, _ => False
  | nn + 1, l1, H, G => (((16 : Int) < l1 → (wR_readRules_125 Q H G)) ∧ (¬ ((16 : Int) < l1) → ((((H 3 7) : Int) = 125 → (wR_readRules_125 Q H G)) ∧ (¬ (((H 3 7) : Int) = 125) → ∀ (H1 : e3_H) (G2 : e3_G), H1 = e3_nw H (G.length : Int) (e3_dz (wFc.getD 9 [])) → G2 = G ++ [(109, 19)] → ((0 : Int) ≤ (G.length : Int)) ∧ (wU_init (fun H3 G4 => ∀ H6 : e3_H, H6 = e3_up H3 14 7 (G.length : Int) → (((l1 : Int) = 16 → (wR_readRules_51 Q (fun l1 H G => wR_readRules_2 Q nn l1 H G) l1 1 H6 G4)) ∧ (¬ ((l1 : Int) = 16) → (wR_readRules_51 Q (fun l1 H G => wR_readRules_2 Q nn l1 H G) l1 0 H6 G4)))) (G.length : Int) l1 (H1 3 8) H1 G2)))))
def wR_readRules (Q : Int → e3_H → e3_G → Prop)  (H : e3_H) (G : e3_G) : Prop :=
  (∃ n, wR_readRules_2 Q n 0 H G)
set_option maxRecDepth 100000 in
set_option maxHeartbeats 4000000 in
theorem sR_readRules_125 (L : Nat) (xs : Nat → Int32) (Q : Int → e3_H → e3_G → Prop)  (H : e3_H) (G : e3_G) (h : wR_readRules_125 Q  H G) : e3_Ev (wB L xs) 33 888 45 125 [(2, 14), (3, 0)] [] H G (e3_q0 Q) := by
  unfold wR_readRules_125 at h
  refine e3_K [0, 0] 128 [(2, 14), (3, 0)] [(0, 125), (2, 14)] (H) (G) (wZ L xs) (M := tbM45) rfl rfl trivial ?_
  refine e3_call (o := 0) (k := 38) (M2 := tbM38) (f1 := 1) (w1 := 21) (as := [(2, 14), (0, 125)]) (rest := []) (M := tbM45) rfl rfl rfl trivial (Nat.le_of_ble_eq_true rfl) (Nat.le_of_ble_eq_true rfl) (Nat.le_of_ble_eq_true rfl) ?_
  refine e3_mono (sR_expect L xs _ _ _ _ h) (fun r H1 G2 h => ?_)
  obtain ⟨x3, rfl, h⟩ := h
  change e3_Ev _ _ _ _ 131 [(2, 14), (3, 0)] [(0, x3)] H1 G2 _
  exact e3_retb (M := tbM45) rfl rfl rfl h.1 ⟨_, rfl, h.2⟩
set_option maxRecDepth 100000 in
set_option maxHeartbeats 4000000 in
theorem sR_readRules_106 (L : Nat) (xs : Nat → Int32) (Q : Int → e3_H → e3_G → Prop)  (H : e3_H) (G : e3_G) (h : wR_readRules_106 Q  H G) : e3_Ev (wB L xs) 33 888 45 106 [(3, 0), (3, 0)] [] H G (e3_q0 Q) := by
  unfold wR_readRules_106 at h
  refine e3_K [0] 107 [(3, 0), (3, 0)] [(0, 0)] (H) (G) (wZ L xs) (M := tbM45) rfl rfl trivial ?_
  exact e3_retb (M := tbM45) rfl rfl rfl (Or.inl rfl) ⟨_, rfl, h⟩
set_option maxRecDepth 100000 in
set_option maxHeartbeats 4000000 in
theorem sR_readRules_81 (L : Nat) (xs : Nat → Int32) (Q : Int → e3_H → e3_G → Prop) (k2 : Int → e3_H → e3_G → Prop) (hk2 : ∀ (l1 : Int) (H : e3_H) (G : e3_G), k2 l1 H G → e3_Ev (wB L xs) 33 888 45 2 [(2, 14), (0, l1)] [] H G (e3_q0 Q)) (l1 : Int) (H : e3_H) (G : e3_G) (h : wR_readRules_81 Q k2 l1 H G) : e3_Ev (wB L xs) 33 888 45 81 [(2, 14), (0, l1)] [] H G (e3_q0 Q) := by
  unfold wR_readRules_81 at h
  refine e3_K [0, 0] 84 [(2, 14), (0, l1)] [(0, 58), (2, 14)] (H) (G) (wZ L xs) (M := tbM45) rfl rfl trivial ?_
  refine e3_call (o := 0) (k := 38) (M2 := tbM38) (f1 := 1) (w1 := 21) (as := [(2, 14), (0, 58)]) (rest := []) (M := tbM45) rfl rfl rfl trivial (Nat.le_of_ble_eq_true rfl) (Nat.le_of_ble_eq_true rfl) (Nat.le_of_ble_eq_true rfl) ?_
  refine e3_mono (sR_expect L xs _ _ _ _ h) (fun r H1 G2 h => ?_)
  obtain ⟨x3, rfl, h⟩ := h
  change e3_Ev _ _ _ _ 87 [(2, 14), (0, l1)] [(0, x3)] H1 G2 _
  refine e3_br (M := tbM45) rfl rfl rfl Iff.rfl (fun hc => ?_) (fun hc => ?_)
  · replace h := h.1 hc
    refine e3_fgt [false, false] ?_
    exact sR_readRules_106 L xs Q _ _ h
  · replace h := h.2 hc
    refine e3_K [0] 91 [(2, 14), (0, l1)] [(2, 14)] (H1) (G2) (wZ L xs) (M := tbM45) rfl rfl trivial ?_
    refine e3_call (o := 0) (k := 77) (M2 := tbM77) (f1 := 3) (w1 := 64) (as := [(2, 14)]) (rest := []) (M := tbM45) rfl rfl rfl trivial (Nat.le_of_ble_eq_true rfl) (Nat.le_of_ble_eq_true rfl) (Nat.le_of_ble_eq_true rfl) ?_
    refine e3_mono (sR_readAnswer L xs _ _ _ h) (fun r H4 G5 h => ?_)
    obtain ⟨x6, rfl, h⟩ := h
    change e3_Ev _ _ _ _ 94 [(2, 14), (0, l1)] [(0, x6)] H4 G5 _
    refine e3_br (M := tbM45) rfl rfl rfl Iff.rfl (fun hc => ?_) (fun hc => ?_)
    · replace h := h.1 hc
      refine e3_fgt [false, false] ?_
      exact sR_readRules_106 L xs Q _ _ h
    · replace h := h.2 hc
      refine e3_K [0, 0] 100 [(2, 14), (0, l1)] [(0, 59), (2, 14)] (H4) (G5) (wZ L xs) (M := tbM45) rfl rfl trivial ?_
      refine e3_call (o := 0) (k := 38) (M2 := tbM38) (f1 := 1) (w1 := 21) (as := [(2, 14), (0, 59)]) (rest := []) (M := tbM45) rfl rfl rfl trivial (Nat.le_of_ble_eq_true rfl) (Nat.le_of_ble_eq_true rfl) (Nat.le_of_ble_eq_true rfl) ?_
      refine e3_mono (sR_expect L xs _ _ _ _ h) (fun r H7 G8 h => ?_)
      obtain ⟨x9, rfl, h⟩ := h
      change e3_Ev _ _ _ _ 103 [(2, 14), (0, l1)] [(0, x9)] H7 G8 _
      refine e3_br (M := tbM45) rfl rfl rfl Iff.rfl (fun hc => ?_) (fun hc => ?_)
      · replace h := h.1 hc
        refine e3_fgt [false, false] ?_
        exact sR_readRules_106 L xs Q _ _ h
      · replace h := h.2 hc
        refine e3_K [0, 2, 0, 2] 116 [(2, 14), (0, l1)] [(2, (H7 14 7)), (2, (H7 14 6))] (H7) (G8) (wZ L xs) (M := tbM45) rfl rfl ⟨trivial, trivial, trivial⟩ ?_
        obtain ⟨oz, h⟩ := h
        refine e3_call (o := 1) (k := 80) (M2 := tbM80) (f1 := 0) (w1 := 0) (as := [(2, (H7 14 6)), (2, (H7 14 7))]) (rest := []) (M := tbM45) rfl rfl rfl oz (Nat.le_of_ble_eq_true rfl) (Nat.le_of_ble_eq_true rfl) (Nat.le_of_ble_eq_true rfl) ?_
        refine e3_mono (sF_addRule L xs _ _ _ _ _ h) (fun r H10 G11 h => ?_)
        obtain ⟨rfl, h⟩ := h
        change e3_Ev _ _ _ _ 119 [(2, 14), (0, l1)] [] H10 G11 _
        refine e3_K [0, 0] 2 [(2, 14), (0, (e3_w32 (l1 + 1)))] [] (H10) (G11) (wZ L xs) (M := tbM45) rfl rfl trivial ?_
        exact hk2 _ _ _ h
set_option maxRecDepth 100000 in
set_option maxHeartbeats 4000000 in
theorem sR_readRules_51 (L : Nat) (xs : Nat → Int32) (Q : Int → e3_H → e3_G → Prop) (k2 : Int → e3_H → e3_G → Prop) (hk2 : ∀ (l1 : Int) (H : e3_H) (G : e3_G), k2 l1 H G → e3_Ev (wB L xs) 33 888 45 2 [(2, 14), (0, l1)] [] H G (e3_q0 Q)) (l1 : Int) (s0 : Int) (H : e3_H) (G : e3_G) (h : wR_readRules_51 Q k2 l1 s0 H G) : e3_Ev (wB L xs) 33 888 45 51 [(2, 14), (0, l1)] [(0, s0), (2, 14)] H G (e3_q0 Q) := by
  unfold wR_readRules_51 at h
  refine e3_call (o := 0) (k := 47) (M2 := tbM47) (f1 := 32) (w1 := 864) (as := [(2, 14), (0, s0)]) (rest := []) (M := tbM45) rfl rfl rfl trivial (Nat.le_of_ble_eq_true rfl) (Nat.le_of_ble_eq_true rfl) (Nat.le_of_ble_eq_true rfl) ?_
  refine e3_mono (sR_readPatterns L xs _ _ _ _ h) (fun r H1 G2 h => ?_)
  obtain ⟨x3, rfl, h⟩ := h
  change e3_Ev _ _ _ _ 54 [(2, 14), (0, l1)] [(0, x3)] H1 G2 _
  refine e3_br (M := tbM45) rfl rfl rfl Iff.rfl (fun hc => ?_) (fun hc => ?_)
  · replace h := h.1 hc
    refine e3_K [0] 58 [(2, 14), (0, l1)] [(0, 0)] (H1) (G2) (wZ L xs) (M := tbM45) rfl rfl trivial ?_
    exact e3_retb (M := tbM45) rfl rfl rfl (Or.inl rfl) ⟨_, rfl, h⟩
  · replace h := h.2 hc
    refine e3_K [0, 4, 2, 0] 69 [(2, 14), (0, l1)] [(0, 273), (0, (H1 3 7))] (H1) (G2) (wZ L xs) (M := tbM45) rfl rfl ⟨trivial, trivial, trivial⟩ ?_
    refine e3_br (M := tbM45) rfl rfl rfl Iff.rfl (fun hc => ?_) (fun hc => ?_)
    · replace h := h.1 hc
      refine e3_K [0] 73 [(2, 14), (0, l1)] [(2, 14)] (H1) (G2) (wZ L xs) (M := tbM45) rfl rfl trivial ?_
      refine e3_call (o := 0) (k := 73) (M2 := tbM73) (f1 := 4) (w1 := 87) (as := [(2, 14)]) (rest := []) (M := tbM45) rfl rfl rfl trivial (Nat.le_of_ble_eq_true rfl) (Nat.le_of_ble_eq_true rfl) (Nat.le_of_ble_eq_true rfl) ?_
      refine e3_mono (sR_readGuard L xs _ _ _ h) (fun r H4 G5 h => ?_)
      obtain ⟨x6, rfl, h⟩ := h
      change e3_Ev _ _ _ _ 76 [(2, 14), (0, l1)] [(0, x6)] H4 G5 _
      refine e3_br (M := tbM45) rfl rfl rfl Iff.rfl (fun hc => ?_) (fun hc => ?_)
      · replace h := h.1 hc
        refine e3_K [0] 80 [(2, 14), (0, l1)] [(0, 0)] (H4) (G5) (wZ L xs) (M := tbM45) rfl rfl trivial ?_
        exact e3_retb (M := tbM45) rfl rfl rfl (Or.inl rfl) ⟨_, rfl, h⟩
      · replace h := h.2 hc
        exact sR_readRules_81 L xs Q k2 hk2 _ _ _ h
    · replace h := h.2 hc
      exact sR_readRules_81 L xs Q k2 hk2 _ _ _ h
set_option maxRecDepth 100000 in
set_option maxHeartbeats 4000000 in
theorem sR_readRules_2 (L : Nat) (xs : Nat → Int32) (Q : Int → e3_H → e3_G → Prop) : ∀ (nl : Nat) (l1 : Int) (H : e3_H) (G : e3_G), wR_readRules_2 Q nl l1 H G → e3_Ev (wB L xs) 33 888 45 2 [(2, 14), (0, l1)] [] H G (e3_q0 Q) := by
  intro nl
  induction nl with
  | zero => intro l1 H G h; exact h.elim
  | succ nn ih =>
    intro l1 H G h
    have h : (((16 : Int) < l1 → (wR_readRules_125 Q H G)) ∧ (¬ ((16 : Int) < l1) → ((((H 3 7) : Int) = 125 → (wR_readRules_125 Q H G)) ∧ (¬ (((H 3 7) : Int) = 125) → ∀ (H1 : e3_H) (G2 : e3_G), H1 = e3_nw H (G.length : Int) (e3_dz (wFc.getD 9 [])) → G2 = G ++ [(109, 19)] → ((0 : Int) ≤ (G.length : Int)) ∧ (wU_init (fun H3 G4 => ∀ H6 : e3_H, H6 = e3_up H3 14 7 (G.length : Int) → (((l1 : Int) = 16 → (wR_readRules_51 Q (fun l1 H G => wR_readRules_2 Q nn l1 H G) l1 1 H6 G4)) ∧ (¬ ((l1 : Int) = 16) → (wR_readRules_51 Q (fun l1 H G => wR_readRules_2 Q nn l1 H G) l1 0 H6 G4)))) (G.length : Int) l1 (H1 3 8) H1 G2))))) := h
    refine e3_K [0, 0] 5 [(2, 14), (0, l1)] [(0, 16), (0, l1)] (H) (G) (wZ L xs) (M := tbM45) rfl rfl trivial ?_
    refine e3_br (M := tbM45) rfl rfl rfl Iff.rfl (fun hc => ?_) (fun hc => ?_)
    · replace h := h.1 hc
      refine e3_fgt [true, false] ?_
      exact sR_readRules_125 L xs Q _ _ h
    · replace h := h.2 hc
      refine e3_K [0, 4, 2, 0] 17 [(2, 14), (0, l1)] [(0, 125), (0, (H 3 7))] (H) (G) (wZ L xs) (M := tbM45) rfl rfl ⟨trivial, trivial, trivial⟩ ?_
      refine e3_br (M := tbM45) rfl rfl rfl Iff.rfl (fun hc => ?_) (fun hc => ?_)
      · replace h := h.1 hc
        refine e3_fgt [true, false] ?_
        exact sR_readRules_125 L xs Q _ _ h
      · replace h := h.2 hc
        refine e3_K [0, 2] 24 [(2, 14), (0, l1)] [(2, (G.length : Int)), (2, 14)] (e3_nw H (G.length : Int) (e3_dz (wFc.getD 9 []))) (G ++ [(109, 19)]) (wZ L xs) (M := tbM45) rfl rfl ⟨trivial, trivial⟩ ?_
        generalize hH1 : (e3_nw H (G.length : Int) (e3_dz (wFc.getD 9 []))) = H1
        generalize hG2 : (G ++ [(109, 19)]) = G2
        replace h := h H1 G2 hH1.symm hG2.symm
        refine e3_K [0, 0, 0, 4, 2] 33 [(2, 14), (0, l1)] [(0, (H1 3 8)), (0, l1), (2, (G.length : Int)), (2, (G.length : Int)), (2, 14)] (H1) (G2) (wZ L xs) (M := tbM45) rfl rfl ⟨trivial, trivial, trivial⟩ ?_
        obtain ⟨oz, h⟩ := h
        refine e3_call (o := 0) (k := 46) (M2 := tbM46) (f1 := 1) (w1 := 40) (as := [(2, (G.length : Int)), (0, l1), (0, (H1 3 8))]) (rest := [(2, (G.length : Int)), (2, 14)]) (M := tbM45) rfl rfl rfl oz (Nat.le_of_ble_eq_true rfl) (Nat.le_of_ble_eq_true rfl) (Nat.le_of_ble_eq_true rfl) ?_
        refine e3_mono (sU_init L xs _ _ _ _ _ _ h) (fun r H3 G4 h => ?_)
        obtain ⟨rfl, h⟩ := h
        change e3_Ev _ _ _ _ 36 [(2, 14), (0, l1)] [(2, (G.length : Int)), (2, 14)] H3 G4 _
        refine e3_K [2] 39 [(2, 14), (0, l1)] [] (e3_up H3 14 7 (G.length : Int)) (G4) (wZ L xs) (M := tbM45) rfl rfl ⟨trivial, trivial⟩ ?_
        generalize hH6 : (e3_up H3 14 7 (G.length : Int)) = H6
        replace h := h H6 hH6.symm
        refine e3_K [0, 0, 0] 43 [(2, 14), (0, l1)] [(0, 16), (0, l1), (2, 14)] (H6) (G4) (wZ L xs) (M := tbM45) rfl rfl trivial ?_
        refine e3_br (M := tbM45) rfl rfl rfl Iff.rfl (fun hc => ?_) (fun hc => ?_)
        · replace h := h.1 hc
          refine e3_K [0, 0] 51 [(2, 14), (0, l1)] [(0, 1), (2, 14)] (H6) (G4) (wZ L xs) (M := tbM45) rfl rfl trivial ?_
          exact sR_readRules_51 L xs Q (fun l1 H G => wR_readRules_2 Q nn l1 H G) ih _ _ _ _ h
        · replace h := h.2 hc
          refine e3_K [0] 51 [(2, 14), (0, l1)] [(0, 0), (2, 14)] (H6) (G4) (wZ L xs) (M := tbM45) rfl rfl trivial ?_
          exact sR_readRules_51 L xs Q (fun l1 H G => wR_readRules_2 Q nn l1 H G) ih _ _ _ _ h
set_option maxRecDepth 100000 in
set_option maxHeartbeats 4000000 in
theorem sR_readRules (L : Nat) (xs : Nat → Int32) (Q : Int → e3_H → e3_G → Prop)  (H : e3_H) (G : e3_G) (h : wR_readRules Q  H G) : e3_Ev (wB L xs) 33 888 45 0 [(2, 14), (3, 0)] [] H G (e3_q0 Q) := by
  unfold wR_readRules at h
  refine e3_K [0, 0] 2 [(2, 14), (0, 0)] [] (H) (G) (wZ L xs) (M := tbM45) rfl rfl trivial ?_
  obtain ⟨nl, h⟩ := h
  exact sR_readRules_2 L xs Q nl _ _ _ h
/-- LetterPost$Reader.functionAt(I)LLetterPost$Function; -/
def wR_functionAt_22 (Q : Int → e3_H → e3_G → Prop) (s0 : Int) (H : e3_H) (G : e3_G) : Prop :=
  Q s0 H G
def wR_functionAt_21 (Q : Int → e3_H → e3_G → Prop)  (H : e3_H) (G : e3_G) : Prop :=
  (wR_functionAt_22 Q (-1) H G)
def wR_functionAt (Q : Int → e3_H → e3_G → Prop) (l1 : Int) (H : e3_H) (G : e3_G) : Prop :=
  (((l1 : Int) < 0 → (wR_functionAt_21 Q H G)) ∧ (¬ ((l1 : Int) < 0) → (((l1 : Int) < (H 14 3) → ((0 : Int) ≤ l1 ∧ (l1 : Int) < 12) ∧ (wR_functionAt_22 Q (H 15 l1) H G)) ∧ (¬ ((l1 : Int) < (H 14 3)) → (wR_functionAt_21 Q H G)))))
set_option maxRecDepth 100000 in
set_option maxHeartbeats 4000000 in
theorem sR_functionAt_22 (L : Nat) (xs : Nat → Int32) (Q : Int → e3_H → e3_G → Prop) (s0 : Int) (H : e3_H) (G : e3_G) (h : wR_functionAt_22 Q s0 H G) : e3_Ev (wB L xs) 0 0 83 22 [(3, 0), (3, 0)] [(2, s0)] H G (e3_q2 Q) := by
  unfold wR_functionAt_22 at h
  exact e3_reta (M := tbM83) rfl rfl rfl ⟨_, rfl, h⟩
set_option maxRecDepth 100000 in
set_option maxHeartbeats 4000000 in
theorem sR_functionAt_21 (L : Nat) (xs : Nat → Int32) (Q : Int → e3_H → e3_G → Prop)  (H : e3_H) (G : e3_G) (h : wR_functionAt_21 Q  H G) : e3_Ev (wB L xs) 0 0 83 21 [(3, 0), (3, 0)] [] H G (e3_q2 Q) := by
  unfold wR_functionAt_21 at h
  refine e3_K [0] 22 [(3, 0), (3, 0)] [(2, (-1))] (H) (G) (wZ L xs) (M := tbM83) rfl rfl trivial ?_
  exact sR_functionAt_22 L xs Q _ _ _ h
set_option maxRecDepth 100000 in
set_option maxHeartbeats 4000000 in
theorem sR_functionAt (L : Nat) (xs : Nat → Int32) (Q : Int → e3_H → e3_G → Prop) (l1 : Int) (H : e3_H) (G : e3_G) (h : wR_functionAt Q l1 H G) : e3_Ev (wB L xs) 0 0 83 0 [(2, 14), (0, l1)] [] H G (e3_q2 Q) := by
  unfold wR_functionAt at h
  refine e3_K [0] 1 [(2, 14), (0, l1)] [(0, l1)] (H) (G) (wZ L xs) (M := tbM83) rfl rfl trivial ?_
  refine e3_br (M := tbM83) rfl rfl rfl Iff.rfl (fun hc => ?_) (fun hc => ?_)
  · replace h := h.1 hc
    refine e3_fgt [false, false] ?_
    exact sR_functionAt_21 L xs Q _ _ h
  · replace h := h.2 hc
    refine e3_K [0, 0, 2] 9 [(2, 14), (0, l1)] [(0, (H 14 3)), (0, l1)] (H) (G) (wZ L xs) (M := tbM83) rfl rfl ⟨trivial, trivial⟩ ?_
    refine e3_br (M := tbM83) rfl rfl rfl Iff.rfl (fun hc => ?_) (fun hc => ?_)
    · replace h := h.1 hc
      obtain ⟨o1, h⟩ := h
      refine e3_K [0, 4, 0, 2, 0] 22 [(2, 14), (0, l1)] [(2, (H 15 l1))] (H) (G) (wZ L xs) (M := tbM83) rfl rfl ⟨trivial, o1, trivial⟩ ?_
      refine e3_fgt [false, false] ?_
      exact sR_functionAt_22 L xs Q _ _ _ h
    · replace h := h.2 hc
      refine e3_fgt [false, false] ?_
      exact sR_functionAt_21 L xs Q _ _ h
/-- LetterPost$Kinds.suits(II)Z -/
def wK_suits_20 (Q : Int → e3_H → e3_G → Prop) (s0 : Int) (H : e3_H) (G : e3_G) : Prop :=
  ((s0 : Int) = 0 ∨ s0 = 1) ∧ Q s0 H G
def wK_suits_10 (Q : Int → e3_H → e3_G → Prop) (l1 : Int) (l2 : Int) (H : e3_H) (G : e3_G) : Prop :=
  (((l1 : Int) = l2 → (wK_suits_20 Q 1 H G)) ∧ (¬ ((l1 : Int) = l2) → (wK_suits_20 Q 0 H G)))
def wK_suits (Q : Int → e3_H → e3_G → Prop) (l1 : Int) (l2 : Int) (H : e3_H) (G : e3_G) : Prop :=
  (((l1 : Int) < 3 → (wK_suits_10 Q l1 l2 H G)) ∧ (¬ ((l1 : Int) < 3) → (((l2 : Int) < 3 → (wK_suits_10 Q l1 l2 H G)) ∧ (¬ ((l2 : Int) < 3) → (wK_isOrUnder (fun x3 H1 G2 => ((x3 : Int) = 0 ∨ x3 = 1) ∧ Q x3 H1 G2) (e3_w32 (l1 - 3)) (e3_w32 (l2 - 3)) H G)))))
set_option maxRecDepth 100000 in
set_option maxHeartbeats 4000000 in
theorem sK_suits_20 (L : Nat) (xs : Nat → Int32) (Q : Int → e3_H → e3_G → Prop) (s0 : Int) (H : e3_H) (G : e3_G) (h : wK_suits_20 Q s0 H G) : e3_Ev (wB L xs) 1 24 84 20 [(3, 0), (3, 0), (3, 0)] [(0, s0)] H G (e3_q0 Q) := by
  unfold wK_suits_20 at h
  exact e3_retb (M := tbM84) rfl rfl rfl h.1 ⟨_, rfl, h.2⟩
set_option maxRecDepth 100000 in
set_option maxHeartbeats 4000000 in
theorem sK_suits_10 (L : Nat) (xs : Nat → Int32) (Q : Int → e3_H → e3_G → Prop) (l1 : Int) (l2 : Int) (H : e3_H) (G : e3_G) (h : wK_suits_10 Q l1 l2 H G) : e3_Ev (wB L xs) 1 24 84 10 [(3, 0), (0, l1), (0, l2)] [] H G (e3_q0 Q) := by
  unfold wK_suits_10 at h
  refine e3_K [0, 0] 12 [(3, 0), (0, l1), (0, l2)] [(0, l2), (0, l1)] (H) (G) (wZ L xs) (M := tbM84) rfl rfl trivial ?_
  refine e3_br (M := tbM84) rfl rfl rfl Iff.rfl (fun hc => ?_) (fun hc => ?_)
  · replace h := h.1 hc
    refine e3_K [0, 0] 20 [(3, 0), (0, l1), (0, l2)] [(0, 1)] (H) (G) (wZ L xs) (M := tbM84) rfl rfl trivial ?_
    refine e3_fgt [false, false, false] ?_
    exact sK_suits_20 L xs Q _ _ _ h
  · replace h := h.2 hc
    refine e3_K [0] 20 [(3, 0), (0, l1), (0, l2)] [(0, 0)] (H) (G) (wZ L xs) (M := tbM84) rfl rfl trivial ?_
    refine e3_fgt [false, false, false] ?_
    exact sK_suits_20 L xs Q _ _ _ h
set_option maxRecDepth 100000 in
set_option maxHeartbeats 4000000 in
theorem sK_suits (L : Nat) (xs : Nat → Int32) (Q : Int → e3_H → e3_G → Prop) (l1 : Int) (l2 : Int) (H : e3_H) (G : e3_G) (h : wK_suits Q l1 l2 H G) : e3_Ev (wB L xs) 1 24 84 0 [(2, 8), (0, l1), (0, l2)] [] H G (e3_q0 Q) := by
  unfold wK_suits at h
  refine e3_K [0, 0] 2 [(2, 8), (0, l1), (0, l2)] [(0, 3), (0, l1)] (H) (G) (wZ L xs) (M := tbM84) rfl rfl trivial ?_
  refine e3_br (M := tbM84) rfl rfl rfl Iff.rfl (fun hc => ?_) (fun hc => ?_)
  · replace h := h.1 hc
    refine e3_fgt [false, true, true] ?_
    exact sK_suits_10 L xs Q _ _ _ _ h
  · replace h := h.2 hc
    refine e3_K [0, 0] 7 [(2, 8), (0, l1), (0, l2)] [(0, 3), (0, l2)] (H) (G) (wZ L xs) (M := tbM84) rfl rfl trivial ?_
    refine e3_br (M := tbM84) rfl rfl rfl Iff.rfl (fun hc => ?_) (fun hc => ?_)
    · replace h := h.1 hc
      refine e3_fgt [false, true, true] ?_
      exact sK_suits_10 L xs Q _ _ _ _ h
    · replace h := h.2 hc
      refine e3_K [0, 0, 0, 0, 0, 0, 0] 28 [(2, 8), (0, l1), (0, l2)] [(0, (e3_w32 (l2 - 3))), (0, (e3_w32 (l1 - 3))), (2, 8)] (H) (G) (wZ L xs) (M := tbM84) rfl rfl trivial ?_
      refine e3_call (o := 0) (k := 55) (M2 := tbM55) (f1 := 0) (w1 := 0) (as := [(2, 8), (0, (e3_w32 (l1 - 3))), (0, (e3_w32 (l2 - 3)))]) (rest := []) (M := tbM84) rfl rfl rfl trivial (Nat.le_of_ble_eq_true rfl) (Nat.le_of_ble_eq_true rfl) (Nat.le_of_ble_eq_true rfl) ?_
      refine e3_mono (sK_isOrUnder L xs _ _ _ _ _ h) (fun r H1 G2 h => ?_)
      obtain ⟨x3, rfl, h⟩ := h
      change e3_Ev _ _ _ _ 31 [(2, 8), (0, l1), (0, l2)] [(0, x3)] H1 G2 _
      exact e3_retb (M := tbM84) rfl rfl rfl h.1 ⟨_, rfl, h.2⟩
/-- LetterPost$Reader.checkCall(LLetterPost$Rule;)Z -/
def wR_checkCall_59 (Q : Int → e3_H → e3_G → Prop) : Nat → Int → Int → Int → e3_H → e3_G → Prop
  | 0, _, _, _, _, _ => False
  | nn + 1, l1, l2, l3, H, G => (e3_ob G 8 l2) ∧ (((l3 : Int) < (H l2 1) → (e3_ob G 9 l1) ∧ (e3_oa G 0 (H l1 16) l3) ∧ (e3_ob G 9 l1) ∧ (wU_nameSort (fun x6 H4 G5 => (e3_ob G5 8 l2) ∧ (e3_oa G5 0 (H4 l2 2) l3) ∧ (wK_suits (fun x11 H9 G10 => (((x11 : Int) = 0 → (e3_ob G10 9 l1) ∧ (e3_oa G10 0 (H9 l1 17) l3) ∧ (wR_failAt (fun x16 H14 G15 => ((x16 : Int) = 0 ∨ x16 = 1) ∧ Q x16 H14 G15) 5 (H9 (H9 l1 17) l3) H9 G10)) ∧ (¬ ((x11 : Int) = 0) → (wR_checkCall_59 Q nn l1 l2 (e3_w32 (l3 + 1)) H9 G10)))) x6 (H4 (H4 l2 2) l3) H4 G5)) l1 (H (H l1 16) l3) H G)) ∧ (¬ ((l3 : Int) < (H l2 1)) → Q 1 H G))
def wR_checkCall (Q : Int → e3_H → e3_G → Prop) (l1 : Int) (H : e3_H) (G : e3_G) : Prop :=
  (e3_ob G 9 l1) ∧ (wR_findFunction (fun x4 H2 G3 => (e3_ob G3 9 l1) ∧ ∀ H5 : e3_H, H5 = e3_up H2 l1 18 x4 → (e3_ob G3 9 l1) ∧ (wR_functionAt (fun x10 H8 G9 => (((x10 : Int) < 0 → (e3_ob G9 9 l1) ∧ (wR_failAt (fun x14 H12 G13 => ((x14 : Int) = 0 ∨ x14 = 1) ∧ Q x14 H12 G13) 4 (H8 l1 14) H8 G9)) ∧ (¬ ((x10 : Int) < 0) → (e3_ob G9 8 x10) ∧ (e3_ob G9 9 l1) ∧ ((((H8 x10 1) : Int) = (H8 l1 15) → (∃ n, wR_checkCall_59 Q n l1 x10 0 H8 G9)) ∧ (¬ (((H8 x10 1) : Int) = (H8 l1 15)) → (e3_ob G9 9 l1) ∧ (wR_failAt (fun x20 H18 G19 => ((x20 : Int) = 0 ∨ x20 = 1) ∧ Q x20 H18 G19) 6 (H8 l1 14) H8 G9)))))) (H5 l1 18) H5 G3)) (H l1 13) H G)
set_option maxRecDepth 100000 in
set_option maxHeartbeats 4000000 in
theorem sR_checkCall_59 (L : Nat) (xs : Nat → Int32) (Q : Int → e3_H → e3_G → Prop) : ∀ (nl : Nat) (l1 : Int) (l2 : Int) (l3 : Int) (H : e3_H) (G : e3_G), wR_checkCall_59 Q nl l1 l2 l3 H G → e3_Ev (wB L xs) 2 46 82 59 [(2, 14), (2, l1), (2, l2), (0, l3)] [] H G (e3_q0 Q) := by
  intro nl
  induction nl with
  | zero => intro l1 l2 l3 H G h; exact h.elim
  | succ nn ih =>
    intro l1 l2 l3 H G h
    have h : (e3_ob G 8 l2) ∧ (((l3 : Int) < (H l2 1) → (e3_ob G 9 l1) ∧ (e3_oa G 0 (H l1 16) l3) ∧ (e3_ob G 9 l1) ∧ (wU_nameSort (fun x6 H4 G5 => (e3_ob G5 8 l2) ∧ (e3_oa G5 0 (H4 l2 2) l3) ∧ (wK_suits (fun x11 H9 G10 => (((x11 : Int) = 0 → (e3_ob G10 9 l1) ∧ (e3_oa G10 0 (H9 l1 17) l3) ∧ (wR_failAt (fun x16 H14 G15 => ((x16 : Int) = 0 ∨ x16 = 1) ∧ Q x16 H14 G15) 5 (H9 (H9 l1 17) l3) H9 G10)) ∧ (¬ ((x11 : Int) = 0) → (wR_checkCall_59 Q nn l1 l2 (e3_w32 (l3 + 1)) H9 G10)))) x6 (H4 (H4 l2 2) l3) H4 G5)) l1 (H (H l1 16) l3) H G)) ∧ (¬ ((l3 : Int) < (H l2 1)) → Q 1 H G)) := h
    obtain ⟨o1, h⟩ := h
    refine e3_K [0, 0, 3] 64 [(2, 14), (2, l1), (2, l2), (0, l3)] [(0, (H l2 1)), (0, l3)] (H) (G) (wZ L xs) (M := tbM82) rfl rfl ⟨o1, trivial⟩ ?_
    refine e3_br (M := tbM82) rfl rfl rfl Iff.rfl (fun hc => ?_) (fun hc => ?_)
    · replace h := h.1 hc
      obtain ⟨o2, o3, h⟩ := h
      refine e3_K [0, 4, 0, 0, 3, 0, 3] 78 [(2, 14), (2, l1), (2, l2), (0, l3)] [(0, (H (H l1 16) l3)), (2, l1), (2, 8)] (H) (G) (wZ L xs) (M := tbM82) rfl rfl ⟨trivial, o2, o3, trivial⟩ ?_
      obtain ⟨oz, h⟩ := h
      refine e3_call (o := 1) (k := 53) (M2 := tbM53) (f1 := 0) (w1 := 0) (as := [(2, l1), (0, (H (H l1 16) l3))]) (rest := [(2, 8)]) (M := tbM82) rfl rfl rfl oz (Nat.le_of_ble_eq_true rfl) (Nat.le_of_ble_eq_true rfl) (Nat.le_of_ble_eq_true rfl) ?_
      refine e3_mono (sU_nameSort L xs _ _ _ _ _ h) (fun r H4 G5 h => ?_)
      obtain ⟨x6, rfl, h⟩ := h
      change e3_Ev _ _ _ _ 81 [(2, 14), (2, l1), (2, l2), (0, l3)] [(0, x6), (2, 8)] H4 G5 _
      obtain ⟨o7, o8, h⟩ := h
      refine e3_K [0, 3, 0, 3] 87 [(2, 14), (2, l1), (2, l2), (0, l3)] [(0, (H4 (H4 l2 2) l3)), (0, x6), (2, 8)] (H4) (G5) (wZ L xs) (M := tbM82) rfl rfl ⟨o7, o8, trivial⟩ ?_
      refine e3_call (o := 0) (k := 84) (M2 := tbM84) (f1 := 1) (w1 := 24) (as := [(2, 8), (0, x6), (0, (H4 (H4 l2 2) l3))]) (rest := []) (M := tbM82) rfl rfl rfl trivial (Nat.le_of_ble_eq_true rfl) (Nat.le_of_ble_eq_true rfl) (Nat.le_of_ble_eq_true rfl) ?_
      refine e3_mono (sK_suits L xs _ _ _ _ _ h) (fun r H9 G10 h => ?_)
      obtain ⟨x11, rfl, h⟩ := h
      change e3_Ev _ _ _ _ 90 [(2, 14), (2, l1), (2, l2), (0, l3)] [(0, x11)] H9 G10 _
      refine e3_br (M := tbM82) rfl rfl rfl Iff.rfl (fun hc => ?_) (fun hc => ?_)
      · replace h := h.1 hc
        obtain ⟨o12, o13, h⟩ := h
        refine e3_K [0, 0, 0, 3, 0, 3] 101 [(2, 14), (2, l1), (2, l2), (0, l3)] [(0, (H9 (H9 l1 17) l3)), (0, 5), (2, 14)] (H9) (G10) (wZ L xs) (M := tbM82) rfl rfl ⟨o12, o13, trivial⟩ ?_
        refine e3_call (o := 0) (k := 65) (M2 := tbM65) (f1 := 0) (w1 := 0) (as := [(2, 14), (0, 5), (0, (H9 (H9 l1 17) l3))]) (rest := []) (M := tbM82) rfl rfl rfl trivial (Nat.le_of_ble_eq_true rfl) (Nat.le_of_ble_eq_true rfl) (Nat.le_of_ble_eq_true rfl) ?_
        refine e3_mono (sR_failAt L xs _ _ _ _ _ h) (fun r H14 G15 h => ?_)
        obtain ⟨x16, rfl, h⟩ := h
        change e3_Ev _ _ _ _ 104 [(2, 14), (2, l1), (2, l2), (0, l3)] [(0, x16)] H14 G15 _
        exact e3_retb (M := tbM82) rfl rfl rfl h.1 ⟨_, rfl, h.2⟩
      · replace h := h.2 hc
        refine e3_K [0, 0] 59 [(2, 14), (2, l1), (2, l2), (0, (e3_w32 (l3 + 1)))] [] (H9) (G10) (wZ L xs) (M := tbM82) rfl rfl trivial ?_
        exact ih _ _ _ _ _ h
    · replace h := h.2 hc
      refine e3_K [0] 112 [(2, 14), (2, l1), (2, l2), (0, l3)] [(0, 1)] (H) (G) (wZ L xs) (M := tbM82) rfl rfl trivial ?_
      exact e3_retb (M := tbM82) rfl rfl rfl (Or.inr rfl) ⟨_, rfl, h⟩
set_option maxRecDepth 100000 in
set_option maxHeartbeats 4000000 in
theorem sR_checkCall (L : Nat) (xs : Nat → Int32) (Q : Int → e3_H → e3_G → Prop) (l1 : Int) (H : e3_H) (G : e3_G) (h : wR_checkCall Q l1 H G) : e3_Ev (wB L xs) 2 46 82 0 [(2, 14), (2, l1), (3, 0), (3, 0)] [] H G (e3_q0 Q) := by
  unfold wR_checkCall at h
  obtain ⟨o1, h⟩ := h
  refine e3_K [0, 0, 0, 3] 6 [(2, 14), (2, l1), (3, 0), (3, 0)] [(1, (H l1 13)), (2, 14), (2, l1)] (H) (G) (wZ L xs) (M := tbM82) rfl rfl ⟨o1, trivial⟩ ?_
  refine e3_call (o := 0) (k := 40) (M2 := tbM40) (f1 := 0) (w1 := 0) (as := [(2, 14), (1, (H l1 13))]) (rest := [(2, l1)]) (M := tbM82) rfl rfl rfl trivial (Nat.le_of_ble_eq_true rfl) (Nat.le_of_ble_eq_true rfl) (Nat.le_of_ble_eq_true rfl) ?_
  refine e3_mono (sR_findFunction L xs _ _ _ _ h) (fun r H2 G3 h => ?_)
  obtain ⟨x4, rfl, h⟩ := h
  change e3_Ev _ _ _ _ 9 [(2, 14), (2, l1), (3, 0), (3, 0)] [(0, x4), (2, l1)] H2 G3 _
  obtain ⟨o6, h⟩ := h
  refine e3_K [3] 12 [(2, 14), (2, l1), (3, 0), (3, 0)] [] (e3_up H2 l1 18 x4) (G3) (wZ L xs) (M := tbM82) rfl rfl ⟨⟨o6, trivial⟩, trivial⟩ ?_
  generalize hH5 : (e3_up H2 l1 18 x4) = H5
  replace h := h H5 hH5.symm
  obtain ⟨o7, h⟩ := h
  refine e3_K [0, 0, 3] 17 [(2, 14), (2, l1), (3, 0), (3, 0)] [(0, (H5 l1 18)), (2, 14)] (H5) (G3) (wZ L xs) (M := tbM82) rfl rfl ⟨o7, trivial⟩ ?_
  refine e3_call (o := 0) (k := 83) (M2 := tbM83) (f1 := 0) (w1 := 0) (as := [(2, 14), (0, (H5 l1 18))]) (rest := []) (M := tbM82) rfl rfl rfl trivial (Nat.le_of_ble_eq_true rfl) (Nat.le_of_ble_eq_true rfl) (Nat.le_of_ble_eq_true rfl) ?_
  refine e3_mono (sR_functionAt L xs _ _ _ _ h) (fun r H8 G9 h => ?_)
  obtain ⟨x10, rfl, h⟩ := h
  change e3_Ev _ _ _ _ 20 [(2, 14), (2, l1), (3, 0), (3, 0)] [(2, x10)] H8 G9 _
  refine e3_K [0, 0] 22 [(2, 14), (2, l1), (2, x10), (3, 0)] [(2, x10)] (H8) (G9) (wZ L xs) (M := tbM82) rfl rfl trivial ?_
  refine e3_br (M := tbM82) rfl rfl rfl Iff.rfl (fun hc => ?_) (fun hc => ?_)
  · replace h := h.1 hc
    obtain ⟨o11, h⟩ := h
    refine e3_K [0, 0, 0, 3] 31 [(2, 14), (2, l1), (2, x10), (3, 0)] [(0, (H8 l1 14)), (0, 4), (2, 14)] (H8) (G9) (wZ L xs) (M := tbM82) rfl rfl ⟨o11, trivial⟩ ?_
    refine e3_call (o := 0) (k := 65) (M2 := tbM65) (f1 := 0) (w1 := 0) (as := [(2, 14), (0, 4), (0, (H8 l1 14))]) (rest := []) (M := tbM82) rfl rfl rfl trivial (Nat.le_of_ble_eq_true rfl) (Nat.le_of_ble_eq_true rfl) (Nat.le_of_ble_eq_true rfl) ?_
    refine e3_mono (sR_failAt L xs _ _ _ _ _ h) (fun r H12 G13 h => ?_)
    obtain ⟨x14, rfl, h⟩ := h
    change e3_Ev _ _ _ _ 34 [(2, 14), (2, l1), (2, x10), (3, 0)] [(0, x14)] H12 G13 _
    exact e3_retb (M := tbM82) rfl rfl rfl h.1 ⟨_, rfl, h.2⟩
  · replace h := h.2 hc
    obtain ⟨o15, o16, h⟩ := h
    refine e3_K [0, 3, 0, 3] 43 [(2, 14), (2, l1), (2, x10), (3, 0)] [(0, (H8 l1 15)), (0, (H8 x10 1))] (H8) (G9) (wZ L xs) (M := tbM82) rfl rfl ⟨o15, o16, trivial⟩ ?_
    refine e3_br (M := tbM82) rfl rfl rfl Iff.rfl (fun hc => ?_) (fun hc => ?_)
    · replace h := h.1 hc
      refine e3_K [0, 0] 59 [(2, 14), (2, l1), (2, x10), (0, 0)] [] (H8) (G9) (wZ L xs) (M := tbM82) rfl rfl trivial ?_
      obtain ⟨nl, h⟩ := h
      exact sR_checkCall_59 L xs Q nl _ _ _ _ _ h
    · replace h := h.2 hc
      obtain ⟨o17, h⟩ := h
      refine e3_K [0, 0, 0, 3] 53 [(2, 14), (2, l1), (2, x10), (3, 0)] [(0, (H8 l1 14)), (0, 6), (2, 14)] (H8) (G9) (wZ L xs) (M := tbM82) rfl rfl ⟨o17, trivial⟩ ?_
      refine e3_call (o := 0) (k := 65) (M2 := tbM65) (f1 := 0) (w1 := 0) (as := [(2, 14), (0, 6), (0, (H8 l1 14))]) (rest := []) (M := tbM82) rfl rfl rfl trivial (Nat.le_of_ble_eq_true rfl) (Nat.le_of_ble_eq_true rfl) (Nat.le_of_ble_eq_true rfl) ?_
      refine e3_mono (sR_failAt L xs _ _ _ _ _ h) (fun r H18 G19 h => ?_)
      obtain ⟨x20, rfl, h⟩ := h
      change e3_Ev _ _ _ _ 56 [(2, 14), (2, l1), (2, x10), (3, 0)] [(0, x20)] H18 G19 _
      exact e3_retb (M := tbM82) rfl rfl rfl h.1 ⟨_, rfl, h.2⟩
/-- LetterPost$Reader.checkCalls()Z -/
def wR_checkCalls_55 (Q : Int → e3_H → e3_G → Prop) (k2 : Int → e3_H → e3_G → Prop) (k12 : Int → Int → e3_H → e3_G → Prop) (l1 : Int) (l2 : Int) (H : e3_H) (G : e3_G) : Prop :=
  (k12 l1 (e3_w32 (l2 + 1)) H G)
def wR_checkCalls_12 (Q : Int → e3_H → e3_G → Prop) (k2 : Int → e3_H → e3_G → Prop) : Nat → Int → Int → e3_H → e3_G → Prop
  | 0, _, _, _, _ => False
  | nn + 1, l1, l2, H, G => ((0 : Int) ≤ l1 ∧ (l1 : Int) < 12) ∧ (e3_ob G 8 (H 15 l1)) ∧ (((l2 : Int) < (H (H 15 l1) 3) → ((0 : Int) ≤ l1 ∧ (l1 : Int) < 12) ∧ (e3_ob G 8 (H 15 l1)) ∧ (e3_oa G 5 (H (H 15 l1) 4) l2) ∧ (e3_ob G 9 (H (H (H 15 l1) 4) l2)) ∧ ((((H (H (H (H 15 l1) 4) l2) 11) : Int) = 2 → (wR_checkCall (fun x9 H7 G8 => (((x9 : Int) = 0 → Q 0 H7 G8) ∧ (¬ ((x9 : Int) = 0) → (wR_checkCalls_55 Q k2 (fun l1 l2 H G => wR_checkCalls_12 Q k2 nn l1 l2 H G) l1 l2 H7 G8)))) (H (H (H 15 l1) 4) l2) H G)) ∧ (¬ (((H (H (H (H 15 l1) 4) l2) 11) : Int) = 2) → (wR_checkCalls_55 Q k2 (fun l1 l2 H G => wR_checkCalls_12 Q k2 nn l1 l2 H G) l1 l2 H G)))) ∧ (¬ ((l2 : Int) < (H (H 15 l1) 3)) → (k2 (e3_w32 (l1 + 1)) H G)))
def wR_checkCalls_2 (Q : Int → e3_H → e3_G → Prop) : Nat → Int → e3_H → e3_G → Prop
  | 0, _, _, _ => False
  | nn + 1, l1, H, G => (((l1 : Int) < (H 14 3) → (∃ n, wR_checkCalls_12 Q (fun l1 H G => wR_checkCalls_2 Q nn l1 H G) n l1 0 H G)) ∧ (¬ ((l1 : Int) < (H 14 3)) → Q 1 H G))
def wR_checkCalls (Q : Int → e3_H → e3_G → Prop)  (H : e3_H) (G : e3_G) : Prop :=
  (∃ n, wR_checkCalls_2 Q n 0 H G)
set_option maxRecDepth 100000 in
set_option maxHeartbeats 4000000 in
theorem sR_checkCalls_55 (L : Nat) (xs : Nat → Int32) (Q : Int → e3_H → e3_G → Prop) (k2 : Int → e3_H → e3_G → Prop) (hk2 : ∀ (l1 : Int) (H : e3_H) (G : e3_G), k2 l1 H G → e3_Ev (wB L xs) 3 69 81 2 [(2, 14), (0, l1), (3, 0), (3, 0)] [] H G (e3_q0 Q)) (k12 : Int → Int → e3_H → e3_G → Prop) (hk12 : ∀ (l1 : Int) (l2 : Int) (H : e3_H) (G : e3_G), k12 l1 l2 H G → e3_Ev (wB L xs) 3 69 81 12 [(2, 14), (0, l1), (0, l2), (3, 0)] [] H G (e3_q0 Q)) (l1 : Int) (l2 : Int) (H : e3_H) (G : e3_G) (h : wR_checkCalls_55 Q k2 k12 l1 l2 H G) : e3_Ev (wB L xs) 3 69 81 55 [(2, 14), (0, l1), (0, l2), (3, 0)] [] H G (e3_q0 Q) := by
  unfold wR_checkCalls_55 at h
  refine e3_K [0, 0] 12 [(2, 14), (0, l1), (0, (e3_w32 (l2 + 1))), (3, 0)] [] (H) (G) (wZ L xs) (M := tbM81) rfl rfl trivial ?_
  exact hk12 _ _ _ _ h
set_option maxRecDepth 100000 in
set_option maxHeartbeats 4000000 in
theorem sR_checkCalls_12 (L : Nat) (xs : Nat → Int32) (Q : Int → e3_H → e3_G → Prop) (k2 : Int → e3_H → e3_G → Prop) (hk2 : ∀ (l1 : Int) (H : e3_H) (G : e3_G), k2 l1 H G → e3_Ev (wB L xs) 3 69 81 2 [(2, 14), (0, l1), (3, 0), (3, 0)] [] H G (e3_q0 Q)) : ∀ (nl : Nat) (l1 : Int) (l2 : Int) (H : e3_H) (G : e3_G), wR_checkCalls_12 Q k2 nl l1 l2 H G → e3_Ev (wB L xs) 3 69 81 12 [(2, 14), (0, l1), (0, l2), (3, 0)] [] H G (e3_q0 Q) := by
  intro nl
  induction nl with
  | zero => intro l1 l2 H G h; exact h.elim
  | succ nn ih =>
    intro l1 l2 H G h
    have h : ((0 : Int) ≤ l1 ∧ (l1 : Int) < 12) ∧ (e3_ob G 8 (H 15 l1)) ∧ (((l2 : Int) < (H (H 15 l1) 3) → ((0 : Int) ≤ l1 ∧ (l1 : Int) < 12) ∧ (e3_ob G 8 (H 15 l1)) ∧ (e3_oa G 5 (H (H 15 l1) 4) l2) ∧ (e3_ob G 9 (H (H (H 15 l1) 4) l2)) ∧ ((((H (H (H (H 15 l1) 4) l2) 11) : Int) = 2 → (wR_checkCall (fun x9 H7 G8 => (((x9 : Int) = 0 → Q 0 H7 G8) ∧ (¬ ((x9 : Int) = 0) → (wR_checkCalls_55 Q k2 (fun l1 l2 H G => wR_checkCalls_12 Q k2 nn l1 l2 H G) l1 l2 H7 G8)))) (H (H (H 15 l1) 4) l2) H G)) ∧ (¬ (((H (H (H (H 15 l1) 4) l2) 11) : Int) = 2) → (wR_checkCalls_55 Q k2 (fun l1 l2 H G => wR_checkCalls_12 Q k2 nn l1 l2 H G) l1 l2 H G)))) ∧ (¬ ((l2 : Int) < (H (H 15 l1) 3)) → (k2 (e3_w32 (l1 + 1)) H G))) := h
    obtain ⟨o1, o2, h⟩ := h
    refine e3_K [0, 0, 4, 0, 2, 3] 22 [(2, 14), (0, l1), (0, l2), (3, 0)] [(0, (H (H 15 l1) 3)), (0, l2)] (H) (G) (wZ L xs) (M := tbM81) rfl rfl ⟨trivial, o1, o2, trivial⟩ ?_
    refine e3_br (M := tbM81) rfl rfl rfl Iff.rfl (fun hc => ?_) (fun hc => ?_)
    · replace h := h.1 hc
      obtain ⟨o3, o4, o5, o6, h⟩ := h
      refine e3_K [0, 4, 0, 2, 3, 0, 8, 0, 0, 3, 0] 42 [(2, 14), (0, l1), (0, l2), (2, (H (H (H 15 l1) 4) l2))] [(0, 2), (0, (H (H (H (H 15 l1) 4) l2) 11))] (H) (G) (wZ L xs) (M := tbM81) rfl rfl ⟨trivial, o3, o4, o5, o6, trivial⟩ ?_
      refine e3_br (M := tbM81) rfl rfl rfl Iff.rfl (fun hc => ?_) (fun hc => ?_)
      · replace h := h.1 hc
        refine e3_K [0, 0] 47 [(2, 14), (0, l1), (0, l2), (2, (H (H (H 15 l1) 4) l2))] [(2, (H (H (H 15 l1) 4) l2)), (2, 14)] (H) (G) (wZ L xs) (M := tbM81) rfl rfl trivial ?_
        refine e3_call (o := 0) (k := 82) (M2 := tbM82) (f1 := 2) (w1 := 46) (as := [(2, 14), (2, (H (H (H 15 l1) 4) l2))]) (rest := []) (M := tbM81) rfl rfl rfl trivial (Nat.le_of_ble_eq_true rfl) (Nat.le_of_ble_eq_true rfl) (Nat.le_of_ble_eq_true rfl) ?_
        refine e3_mono (sR_checkCall L xs _ _ _ _ h) (fun r H7 G8 h => ?_)
        obtain ⟨x9, rfl, h⟩ := h
        change e3_Ev _ _ _ _ 50 [(2, 14), (0, l1), (0, l2), (2, (H (H (H 15 l1) 4) l2))] [(0, x9)] H7 G8 _
        refine e3_br (M := tbM81) rfl rfl rfl Iff.rfl (fun hc => ?_) (fun hc => ?_)
        · replace h := h.1 hc
          refine e3_K [0] 54 [(2, 14), (0, l1), (0, l2), (2, (H (H (H 15 l1) 4) l2))] [(0, 0)] (H7) (G8) (wZ L xs) (M := tbM81) rfl rfl trivial ?_
          exact e3_retb (M := tbM81) rfl rfl rfl (Or.inl rfl) ⟨_, rfl, h⟩
        · replace h := h.2 hc
          refine e3_fgt [true, true, true, false] ?_
          exact sR_checkCalls_55 L xs Q k2 hk2 (fun l1 l2 H G => wR_checkCalls_12 Q k2 nn l1 l2 H G) ih _ _ _ _ h
      · replace h := h.2 hc
        refine e3_fgt [true, true, true, false] ?_
        exact sR_checkCalls_55 L xs Q k2 hk2 (fun l1 l2 H G => wR_checkCalls_12 Q k2 nn l1 l2 H G) ih _ _ _ _ h
    · replace h := h.2 hc
      refine e3_K [0, 0] 2 [(2, 14), (0, (e3_w32 (l1 + 1))), (0, l2), (3, 0)] [] (H) (G) (wZ L xs) (M := tbM81) rfl rfl trivial ?_
      refine e3_fgt [true, true, false, false] ?_
      exact hk2 _ _ _ h
set_option maxRecDepth 100000 in
set_option maxHeartbeats 4000000 in
theorem sR_checkCalls_2 (L : Nat) (xs : Nat → Int32) (Q : Int → e3_H → e3_G → Prop) : ∀ (nl : Nat) (l1 : Int) (H : e3_H) (G : e3_G), wR_checkCalls_2 Q nl l1 H G → e3_Ev (wB L xs) 3 69 81 2 [(2, 14), (0, l1), (3, 0), (3, 0)] [] H G (e3_q0 Q) := by
  intro nl
  induction nl with
  | zero => intro l1 H G h; exact h.elim
  | succ nn ih =>
    intro l1 H G h
    have h : (((l1 : Int) < (H 14 3) → (∃ n, wR_checkCalls_12 Q (fun l1 H G => wR_checkCalls_2 Q nn l1 H G) n l1 0 H G)) ∧ (¬ ((l1 : Int) < (H 14 3)) → Q 1 H G)) := h
    refine e3_K [0, 0, 2] 7 [(2, 14), (0, l1), (3, 0), (3, 0)] [(0, (H 14 3)), (0, l1)] (H) (G) (wZ L xs) (M := tbM81) rfl rfl ⟨trivial, trivial⟩ ?_
    refine e3_br (M := tbM81) rfl rfl rfl Iff.rfl (fun hc => ?_) (fun hc => ?_)
    · replace h := h.1 hc
      refine e3_K [0, 0] 12 [(2, 14), (0, l1), (0, 0), (3, 0)] [] (H) (G) (wZ L xs) (M := tbM81) rfl rfl trivial ?_
      obtain ⟨nl, h⟩ := h
      exact sR_checkCalls_12 L xs Q (fun l1 H G => wR_checkCalls_2 Q nn l1 H G) ih nl _ _ _ _ h
    · replace h := h.2 hc
      refine e3_K [0] 68 [(2, 14), (0, l1), (3, 0), (3, 0)] [(0, 1)] (H) (G) (wZ L xs) (M := tbM81) rfl rfl trivial ?_
      exact e3_retb (M := tbM81) rfl rfl rfl (Or.inr rfl) ⟨_, rfl, h⟩
set_option maxRecDepth 100000 in
set_option maxHeartbeats 4000000 in
theorem sR_checkCalls (L : Nat) (xs : Nat → Int32) (Q : Int → e3_H → e3_G → Prop)  (H : e3_H) (G : e3_G) (h : wR_checkCalls Q  H G) : e3_Ev (wB L xs) 3 69 81 0 [(2, 14), (3, 0), (3, 0), (3, 0)] [] H G (e3_q0 Q) := by
  unfold wR_checkCalls at h
  refine e3_K [0, 0] 2 [(2, 14), (0, 0), (3, 0), (3, 0)] [] (H) (G) (wZ L xs) (M := tbM81) rfl rfl trivial ?_
  obtain ⟨nl, h⟩ := h
  exact sR_checkCalls_2 L xs Q nl _ _ _ h
