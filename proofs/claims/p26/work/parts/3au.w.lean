/-- LetterPostModel.boundName(Z)I -/
def wM_boundName_66 (Q : Int → e3_H → e3_G → Prop) (l2 : Int) (H : e3_H) (G : e3_G) : Prop :=
  Q l2 H G
def wM_boundName_24 (Q : Int → e3_H → e3_G → Prop) (l2 : Int) (H : e3_H) (G : e3_G) : Prop :=
  (wM_fails (fun H1 G2 => (wM_boundName_66 Q l2 H1 G2)) 4 (H 40 5) H G)
def wM_boundName (Q : Int → e3_H → e3_G → Prop) (l1 : Int) (H : e3_H) (G : e3_G) : Prop :=
  (wM_nameOf (fun x3 H1 G2 => (((x3 : Int) < 0 → (wM_boundName_24 Q x3 H1 G2)) ∧ (¬ ((x3 : Int) < 0) → ((((e3_and (e3_shr (H1 40 31) x3) 1) : Int) = 0 → (wM_boundName_24 Q x3 H1 G2)) ∧ (¬ (((e3_and (e3_shr (H1 40 31) x3) 1) : Int) = 0) → (((l1 : Int) = 0 → (wM_boundName_66 Q x3 H1 G2)) ∧ (¬ ((l1 : Int) = 0) → ((0 : Int) ≤ (e3_w32 ((e3_w32 (8 * (H1 40 27))) + x3)) ∧ ((e3_w32 ((e3_w32 (8 * (H1 40 27))) + x3)) : Int) < 1536) ∧ ((((H1 58 (e3_w32 ((e3_w32 (8 * (H1 40 27))) + x3))) : Int) = 0 → (wM_boundName_66 Q x3 H1 G2)) ∧ (¬ (((H1 58 (e3_w32 ((e3_w32 (8 * (H1 40 27))) + x3))) : Int) = 0) → (wM_fails (fun H5 G6 => (wM_boundName_66 Q x3 H5 G6)) 5 (H1 40 5) H1 G2)))))))))) (H 40 4) H G)
set_option maxRecDepth 100000 in
set_option maxHeartbeats 4000000 in
theorem sM_boundName_66 (L : Nat) (xs : Nat → Int32) (Q : Int → e3_H → e3_G → Prop) (l2 : Int) (H : e3_H) (G : e3_G) (h : wM_boundName_66 Q l2 H G) : e3_Ev (wB L xs) 1 24 238 66 [(3, 0), (3, 0), (0, l2)] [] H G (e3_q0 Q) := by
  unfold wM_boundName_66 at h
  refine e3_K [0] 67 [(3, 0), (3, 0), (0, l2)] [(0, l2)] (H) (G) (wZ L xs) (M := tbM238) rfl rfl trivial ?_
  exact e3_reti (M := tbM238) rfl rfl rfl ⟨_, rfl, h⟩
set_option maxRecDepth 100000 in
set_option maxHeartbeats 4000000 in
theorem sM_boundName_24 (L : Nat) (xs : Nat → Int32) (Q : Int → e3_H → e3_G → Prop) (l2 : Int) (H : e3_H) (G : e3_G) (h : wM_boundName_24 Q l2 H G) : e3_Ev (wB L xs) 1 24 238 24 [(2, 40), (3, 0), (0, l2)] [] H G (e3_q0 Q) := by
  unfold wM_boundName_24 at h
  refine e3_K [0, 0, 0, 2] 30 [(2, 40), (3, 0), (0, l2)] [(0, (H 40 5)), (0, 4), (2, 40)] (H) (G) (wZ L xs) (M := tbM238) rfl rfl ⟨trivial, trivial⟩ ?_
  refine e3_call (o := 0) (k := 210) (M2 := tbM210) (f1 := 0) (w1 := 0) (as := [(2, 40), (0, 4), (0, (H 40 5))]) (rest := []) (M := tbM238) rfl rfl rfl trivial (Nat.le_of_ble_eq_true rfl) (Nat.le_of_ble_eq_true rfl) (Nat.le_of_ble_eq_true rfl) ?_
  refine e3_mono (sM_fails L xs _ _ _ _ _ h) (fun r H1 G2 h => ?_)
  obtain ⟨rfl, h⟩ := h
  change e3_Ev _ _ _ _ 33 [(2, 40), (3, 0), (0, l2)] [] H1 G2 _
  refine e3_K [0] 66 [(2, 40), (3, 0), (0, l2)] [] (H1) (G2) (wZ L xs) (M := tbM238) rfl rfl trivial ?_
  refine e3_fgt [false, false, true] ?_
  exact sM_boundName_66 L xs Q _ _ _ h
set_option maxRecDepth 100000 in
set_option maxHeartbeats 4000000 in
theorem sM_boundName (L : Nat) (xs : Nat → Int32) (Q : Int → e3_H → e3_G → Prop) (l1 : Int) (H : e3_H) (G : e3_G) (h : wM_boundName Q l1 H G) : e3_Ev (wB L xs) 1 24 238 0 [(2, 40), (0, l1), (3, 0)] [] H G (e3_q0 Q) := by
  unfold wM_boundName at h
  refine e3_K [0, 0, 2] 5 [(2, 40), (0, l1), (3, 0)] [(1, (H 40 4)), (2, 40)] (H) (G) (wZ L xs) (M := tbM238) rfl rfl ⟨trivial, trivial⟩ ?_
  refine e3_call (o := 0) (k := 225) (M2 := tbM225) (f1 := 0) (w1 := 0) (as := [(2, 40), (1, (H 40 4))]) (rest := []) (M := tbM238) rfl rfl rfl trivial (Nat.le_of_ble_eq_true rfl) (Nat.le_of_ble_eq_true rfl) (Nat.le_of_ble_eq_true rfl) ?_
  refine e3_mono (sM_nameOf L xs _ _ _ _ h) (fun r H1 G2 h => ?_)
  obtain ⟨x3, rfl, h⟩ := h
  change e3_Ev _ _ _ _ 8 [(2, 40), (0, l1), (3, 0)] [(0, x3)] H1 G2 _
  refine e3_K [0, 0] 10 [(2, 40), (0, l1), (0, x3)] [(0, x3)] (H1) (G2) (wZ L xs) (M := tbM238) rfl rfl trivial ?_
  refine e3_br (M := tbM238) rfl rfl rfl Iff.rfl (fun hc => ?_) (fun hc => ?_)
  · replace h := h.1 hc
    refine e3_fgt [true, false, true] ?_
    exact sM_boundName_24 L xs Q _ _ _ h
  · replace h := h.2 hc
    refine e3_K [0, 2, 0, 0, 0, 0] 21 [(2, 40), (0, l1), (0, x3)] [(0, (e3_and (e3_shr (H1 40 31) x3) 1))] (H1) (G2) (wZ L xs) (M := tbM238) rfl rfl ⟨trivial, trivial⟩ ?_
    refine e3_br (M := tbM238) rfl rfl rfl Iff.rfl (fun hc => ?_) (fun hc => ?_)
    · replace h := h.1 hc
      refine e3_fgt [true, false, true] ?_
      exact sM_boundName_24 L xs Q _ _ _ h
    · replace h := h.2 hc
      refine e3_K [0] 37 [(2, 40), (0, l1), (0, x3)] [(0, l1)] (H1) (G2) (wZ L xs) (M := tbM238) rfl rfl trivial ?_
      refine e3_br (M := tbM238) rfl rfl rfl Iff.rfl (fun hc => ?_) (fun hc => ?_)
      · replace h := h.1 hc
        refine e3_fgt [false, false, true] ?_
        exact sM_boundName_66 L xs Q _ _ _ h
      · replace h := h.2 hc
        obtain ⟨o4, h⟩ := h
        refine e3_K [0, 4, 0, 0, 2, 0, 0, 0, 2] 54 [(2, 40), (0, l1), (0, x3)] [(0, (H1 58 (e3_w32 ((e3_w32 (8 * (H1 40 27))) + x3))))] (H1) (G2) (wZ L xs) (M := tbM238) rfl rfl ⟨trivial, trivial, o4, trivial⟩ ?_
        refine e3_br (M := tbM238) rfl rfl rfl Iff.rfl (fun hc => ?_) (fun hc => ?_)
        · replace h := h.1 hc
          refine e3_fgt [false, false, true] ?_
          exact sM_boundName_66 L xs Q _ _ _ h
        · replace h := h.2 hc
          refine e3_K [0, 0, 0, 2] 63 [(2, 40), (0, l1), (0, x3)] [(0, (H1 40 5)), (0, 5), (2, 40)] (H1) (G2) (wZ L xs) (M := tbM238) rfl rfl ⟨trivial, trivial⟩ ?_
          refine e3_call (o := 0) (k := 210) (M2 := tbM210) (f1 := 0) (w1 := 0) (as := [(2, 40), (0, 5), (0, (H1 40 5))]) (rest := []) (M := tbM238) rfl rfl rfl trivial (Nat.le_of_ble_eq_true rfl) (Nat.le_of_ble_eq_true rfl) (Nat.le_of_ble_eq_true rfl) ?_
          refine e3_mono (sM_fails L xs _ _ _ _ _ h) (fun r H5 G6 h => ?_)
          obtain ⟨rfl, h⟩ := h
          change e3_Ev _ _ _ _ 66 [(2, 40), (0, l1), (0, x3)] [] H5 G6 _
          refine e3_fgt [false, false, true] ?_
          exact sM_boundName_66 L xs Q _ _ _ h
/-- LetterPostModel.readTerm(I)V -/
def wM_readTerm_82 (Q : e3_H → e3_G → Prop)  (H : e3_H) (G : e3_G) : Prop :=
  Q H G
def wM_readTerm_57 (Q : e3_H → e3_G → Prop) (l1 : Int) (H : e3_H) (G : e3_G) : Prop :=
  ((0 : Int) ≤ l1 ∧ (l1 : Int) < 768) ∧ ∀ H1 : e3_H, H1 = e3_up H 75 l1 1 → (wM_number (fun x5 H3 G4 => ((0 : Int) ≤ l1 ∧ (l1 : Int) < 768) ∧ ∀ H6 : e3_H, H6 = e3_up H3 76 l1 x5 → (wM_readTerm_82 Q H6 G4)) H1 G)
def wM_readTerm (Q : e3_H → e3_G → Prop) (l1 : Int) (H : e3_H) (G : e3_G) : Prop :=
  ((((H 40 3) : Int) = 1 → ((0 : Int) ≤ l1 ∧ (l1 : Int) < 768) ∧ ∀ H1 : e3_H, H1 = e3_up H 75 l1 2 → (wM_boundName (fun x5 H3 G4 => ((0 : Int) ≤ l1 ∧ (l1 : Int) < 768) ∧ ∀ H6 : e3_H, H6 = e3_up H3 76 l1 x5 → ((((H6 40 7) : Int) = 0 → (wM_next (fun H8 G9 => (wM_readTerm_82 Q H8 G9)) H6 G4)) ∧ (¬ (((H6 40 7) : Int) = 0) → (wM_readTerm_82 Q H6 G4)))) 1 H1 G)) ∧ (¬ (((H 40 3) : Int) = 1) → ((((H 40 3) : Int) = 3 → (wM_readTerm_57 Q l1 H G)) ∧ (¬ (((H 40 3) : Int) = 3) → (wM_isSign (fun x13 H11 G12 => (((x13 : Int) = 0 → (wM_stop (fun H14 G15 => (wM_readTerm_82 Q H14 G15)) 2 H11 G12)) ∧ (¬ ((x13 : Int) = 0) → (wM_readTerm_57 Q l1 H11 G12)))) 45 H G)))))
set_option maxRecDepth 100000 in
set_option maxHeartbeats 4000000 in
theorem sM_readTerm_82 (L : Nat) (xs : Nat → Int32) (Q : e3_H → e3_G → Prop)  (H : e3_H) (G : e3_G) (h : wM_readTerm_82 Q  H G) : e3_Ev (wB L xs) 6 133 237 82 [(3, 0), (3, 0)] [] H G (e3_qv Q) := by
  unfold wM_readTerm_82 at h
  exact e3_retv (M := tbM237) rfl rfl rfl ⟨rfl, h⟩
set_option maxRecDepth 100000 in
set_option maxHeartbeats 4000000 in
theorem sM_readTerm_57 (L : Nat) (xs : Nat → Int32) (Q : e3_H → e3_G → Prop) (l1 : Int) (H : e3_H) (G : e3_G) (h : wM_readTerm_57 Q l1 H G) : e3_Ev (wB L xs) 6 133 237 57 [(2, 40), (0, l1)] [] H G (e3_qv Q) := by
  unfold wM_readTerm_57 at h
  obtain ⟨o2, h⟩ := h
  refine e3_K [0, 4, 0, 0, 2] 64 [(2, 40), (0, l1)] [] (e3_up H 75 l1 1) (G) (wZ L xs) (M := tbM237) rfl rfl ⟨trivial, o2, trivial⟩ ?_
  generalize hH1 : (e3_up H 75 l1 1) = H1
  replace h := h H1 hH1.symm
  refine e3_K [0, 4, 0, 0] 70 [(2, 40), (0, l1)] [(2, 40), (0, l1), (2, 76)] (H1) (G) (wZ L xs) (M := tbM237) rfl rfl ⟨trivial, trivial⟩ ?_
  refine e3_call (o := 0) (k := 228) (M2 := tbM228) (f1 := 5) (w1 := 111) (as := [(2, 40)]) (rest := [(0, l1), (2, 76)]) (M := tbM237) rfl rfl rfl trivial (Nat.le_of_ble_eq_true rfl) (Nat.le_of_ble_eq_true rfl) (Nat.le_of_ble_eq_true rfl) ?_
  refine e3_mono (sM_number L xs _ _ _ h) (fun r H3 G4 h => ?_)
  obtain ⟨x5, rfl, h⟩ := h
  change e3_Ev _ _ _ _ 73 [(2, 40), (0, l1)] [(0, x5), (0, l1), (2, 76)] H3 G4 _
  obtain ⟨o7, h⟩ := h
  refine e3_K [2] 74 [(2, 40), (0, l1)] [] (e3_up H3 76 l1 x5) (G4) (wZ L xs) (M := tbM237) rfl rfl ⟨o7, trivial⟩ ?_
  generalize hH6 : (e3_up H3 76 l1 x5) = H6
  replace h := h H6 hH6.symm
  refine e3_K [0] 82 [(2, 40), (0, l1)] [] (H6) (G4) (wZ L xs) (M := tbM237) rfl rfl trivial ?_
  refine e3_fgt [false, false] ?_
  exact sM_readTerm_82 L xs Q _ _ h
set_option maxRecDepth 100000 in
set_option maxHeartbeats 4000000 in
theorem sM_readTerm (L : Nat) (xs : Nat → Int32) (Q : e3_H → e3_G → Prop) (l1 : Int) (H : e3_H) (G : e3_G) (h : wM_readTerm Q l1 H G) : e3_Ev (wB L xs) 6 133 237 0 [(2, 40), (0, l1)] [] H G (e3_qv Q) := by
  unfold wM_readTerm at h
  refine e3_K [0, 2, 0] 5 [(2, 40), (0, l1)] [(0, 1), (0, (H 40 3))] (H) (G) (wZ L xs) (M := tbM237) rfl rfl ⟨trivial, trivial⟩ ?_
  refine e3_br (M := tbM237) rfl rfl rfl Iff.rfl (fun hc => ?_) (fun hc => ?_)
  · replace h := h.1 hc
    obtain ⟨o2, h⟩ := h
    refine e3_K [0, 4, 0, 0, 2] 15 [(2, 40), (0, l1)] [] (e3_up H 75 l1 2) (G) (wZ L xs) (M := tbM237) rfl rfl ⟨trivial, o2, trivial⟩ ?_
    generalize hH1 : (e3_up H 75 l1 2) = H1
    replace h := h H1 hH1.symm
    refine e3_K [0, 4, 0, 0, 0] 22 [(2, 40), (0, l1)] [(0, 1), (2, 40), (0, l1), (2, 76)] (H1) (G) (wZ L xs) (M := tbM237) rfl rfl ⟨trivial, trivial⟩ ?_
    refine e3_call (o := 0) (k := 238) (M2 := tbM238) (f1 := 1) (w1 := 24) (as := [(2, 40), (0, 1)]) (rest := [(0, l1), (2, 76)]) (M := tbM237) rfl rfl rfl trivial (Nat.le_of_ble_eq_true rfl) (Nat.le_of_ble_eq_true rfl) (Nat.le_of_ble_eq_true rfl) ?_
    refine e3_mono (sM_boundName L xs _ _ _ _ h) (fun r H3 G4 h => ?_)
    obtain ⟨x5, rfl, h⟩ := h
    change e3_Ev _ _ _ _ 25 [(2, 40), (0, l1)] [(0, x5), (0, l1), (2, 76)] H3 G4 _
    obtain ⟨o7, h⟩ := h
    refine e3_K [2] 26 [(2, 40), (0, l1)] [] (e3_up H3 76 l1 x5) (G4) (wZ L xs) (M := tbM237) rfl rfl ⟨o7, trivial⟩ ?_
    generalize hH6 : (e3_up H3 76 l1 x5) = H6
    replace h := h H6 hH6.symm
    refine e3_K [0, 2] 30 [(2, 40), (0, l1)] [(0, (H6 40 7))] (H6) (G4) (wZ L xs) (M := tbM237) rfl rfl ⟨trivial, trivial⟩ ?_
    refine e3_br (M := tbM237) rfl rfl rfl Iff.rfl (fun hc => ?_) (fun hc => ?_)
    · replace h := h.1 hc
      refine e3_K [0] 34 [(2, 40), (0, l1)] [(2, 40)] (H6) (G4) (wZ L xs) (M := tbM237) rfl rfl trivial ?_
      refine e3_call (o := 0) (k := 201) (M2 := tbM201) (f1 := 3) (w1 := 67) (as := [(2, 40)]) (rest := []) (M := tbM237) rfl rfl rfl trivial (Nat.le_of_ble_eq_true rfl) (Nat.le_of_ble_eq_true rfl) (Nat.le_of_ble_eq_true rfl) ?_
      refine e3_mono (sM_next L xs _ _ _ h) (fun r H8 G9 h => ?_)
      obtain ⟨rfl, h⟩ := h
      change e3_Ev _ _ _ _ 37 [(2, 40), (0, l1)] [] H8 G9 _
      refine e3_K [0] 82 [(2, 40), (0, l1)] [] (H8) (G9) (wZ L xs) (M := tbM237) rfl rfl trivial ?_
      refine e3_fgt [false, false] ?_
      exact sM_readTerm_82 L xs Q _ _ h
    · replace h := h.2 hc
      refine e3_fgt [false, false] ?_
      exact sM_readTerm_82 L xs Q _ _ h
  · replace h := h.2 hc
    refine e3_K [0, 2, 0] 45 [(2, 40), (0, l1)] [(0, 3), (0, (H 40 3))] (H) (G) (wZ L xs) (M := tbM237) rfl rfl ⟨trivial, trivial⟩ ?_
    refine e3_br (M := tbM237) rfl rfl rfl Iff.rfl (fun hc => ?_) (fun hc => ?_)
    · replace h := h.1 hc
      exact sM_readTerm_57 L xs Q _ _ _ h
    · replace h := h.2 hc
      refine e3_K [0, 0] 51 [(2, 40), (0, l1)] [(0, 45), (2, 40)] (H) (G) (wZ L xs) (M := tbM237) rfl rfl trivial ?_
      refine e3_call (o := 0) (k := 215) (M2 := tbM215) (f1 := 0) (w1 := 0) (as := [(2, 40), (0, 45)]) (rest := []) (M := tbM237) rfl rfl rfl trivial (Nat.le_of_ble_eq_true rfl) (Nat.le_of_ble_eq_true rfl) (Nat.le_of_ble_eq_true rfl) ?_
      refine e3_mono (sM_isSign L xs _ _ _ _ h) (fun r H11 G12 h => ?_)
      obtain ⟨x13, rfl, h⟩ := h
      change e3_Ev _ _ _ _ 54 [(2, 40), (0, l1)] [(0, x13)] H11 G12 _
      refine e3_br (M := tbM237) rfl rfl rfl Iff.rfl (fun hc => ?_) (fun hc => ?_)
      · replace h := h.1 hc
        refine e3_K [0, 0] 79 [(2, 40), (0, l1)] [(0, 2), (2, 40)] (H11) (G12) (wZ L xs) (M := tbM237) rfl rfl trivial ?_
        refine e3_call (o := 0) (k := 209) (M2 := tbM209) (f1 := 1) (w1 := 22) (as := [(2, 40), (0, 2)]) (rest := []) (M := tbM237) rfl rfl rfl trivial (Nat.le_of_ble_eq_true rfl) (Nat.le_of_ble_eq_true rfl) (Nat.le_of_ble_eq_true rfl) ?_
        refine e3_mono (sM_stop L xs _ _ _ _ h) (fun r H14 G15 h => ?_)
        obtain ⟨rfl, h⟩ := h
        change e3_Ev _ _ _ _ 82 [(2, 40), (0, l1)] [] H14 G15 _
        refine e3_fgt [false, false] ?_
        exact sM_readTerm_82 L xs Q _ _ h
      · replace h := h.2 hc
        exact sM_readTerm_57 L xs Q _ _ _ h
/-- LetterPostModel.readSum(II)V -/
def wM_readSum_95 (Q : e3_H → e3_G → Prop)  (H : e3_H) (G : e3_G) : Prop :=
  Q H G
def wM_readSum_73 (Q : e3_H → e3_G → Prop) (l1 : Int) (l2 : Int) (H : e3_H) (G : e3_G) : Prop :=
  ((0 : Int) ≤ l2 ∧ (l2 : Int) < 384) ∧ ∀ H1 : e3_H, H1 = e3_up H 77 l2 (e3_w32 (H 40 4)) → (wM_next (fun H3 G4 => (wM_readTerm (fun H6 G7 => (wM_readSum_95 Q H6 G7)) (e3_w32 (l1 + 1)) H3 G4)) H1 G)
def wM_readSum (Q : e3_H → e3_G → Prop) (l1 : Int) (l2 : Int) (H : e3_H) (G : e3_G) : Prop :=
  (wM_readTerm (fun H1 G2 => ((0 : Int) ≤ (e3_w32 (l1 + 1)) ∧ ((e3_w32 (l1 + 1)) : Int) < 768) ∧ ∀ H4 : e3_H, H4 = e3_up H1 75 (e3_w32 (l1 + 1)) 0 → ((0 : Int) ≤ l2 ∧ (l2 : Int) < 384) ∧ ∀ H6 : e3_H, H6 = e3_up H4 77 l2 0 → ((((H6 40 7) : Int) = 0 → (wM_isSign (fun x10 H8 G9 => (((x10 : Int) = 0 → (wM_isSign (fun x13 H11 G12 => (((x13 : Int) = 0 → (wM_isSign (fun x16 H14 G15 => (((x16 : Int) = 0 → (wM_isSign (fun x19 H17 G18 => (((x19 : Int) = 0 → (wM_isSign (fun x22 H20 G21 => (((x22 : Int) = 0 → (wM_readSum_95 Q H20 G21)) ∧ (¬ ((x22 : Int) = 0) → (wM_readSum_73 Q l1 l2 H20 G21)))) 37 H17 G18)) ∧ (¬ ((x19 : Int) = 0) → (wM_readSum_73 Q l1 l2 H17 G18)))) 47 H14 G15)) ∧ (¬ ((x16 : Int) = 0) → (wM_readSum_73 Q l1 l2 H14 G15)))) 42 H11 G12)) ∧ (¬ ((x13 : Int) = 0) → (wM_readSum_73 Q l1 l2 H11 G12)))) 45 H8 G9)) ∧ (¬ ((x10 : Int) = 0) → (wM_readSum_73 Q l1 l2 H8 G9)))) 43 H6 G2)) ∧ (¬ (((H6 40 7) : Int) = 0) → (wM_readSum_95 Q H6 G2)))) l1 H G)
set_option maxRecDepth 100000 in
set_option maxHeartbeats 4000000 in
theorem sM_readSum_95 (L : Nat) (xs : Nat → Int32) (Q : e3_H → e3_G → Prop)  (H : e3_H) (G : e3_G) (h : wM_readSum_95 Q  H G) : e3_Ev (wB L xs) 7 154 236 95 [(3, 0), (3, 0), (3, 0)] [] H G (e3_qv Q) := by
  unfold wM_readSum_95 at h
  exact e3_retv (M := tbM236) rfl rfl rfl ⟨rfl, h⟩
set_option maxRecDepth 100000 in
set_option maxHeartbeats 4000000 in
theorem sM_readSum_73 (L : Nat) (xs : Nat → Int32) (Q : e3_H → e3_G → Prop) (l1 : Int) (l2 : Int) (H : e3_H) (G : e3_G) (h : wM_readSum_73 Q l1 l2 H G) : e3_Ev (wB L xs) 7 154 236 73 [(2, 40), (0, l1), (0, l2)] [] H G (e3_qv Q) := by
  unfold wM_readSum_73 at h
  obtain ⟨o2, h⟩ := h
  refine e3_K [0, 4, 0, 0, 2, 0, 2] 84 [(2, 40), (0, l1), (0, l2)] [] (e3_up H 77 l2 (e3_w32 (H 40 4))) (G) (wZ L xs) (M := tbM236) rfl rfl ⟨trivial, trivial, o2, trivial⟩ ?_
  generalize hH1 : (e3_up H 77 l2 (e3_w32 (H 40 4))) = H1
  replace h := h H1 hH1.symm
  refine e3_K [0] 85 [(2, 40), (0, l1), (0, l2)] [(2, 40)] (H1) (G) (wZ L xs) (M := tbM236) rfl rfl trivial ?_
  refine e3_call (o := 0) (k := 201) (M2 := tbM201) (f1 := 3) (w1 := 67) (as := [(2, 40)]) (rest := []) (M := tbM236) rfl rfl rfl trivial (Nat.le_of_ble_eq_true rfl) (Nat.le_of_ble_eq_true rfl) (Nat.le_of_ble_eq_true rfl) ?_
  refine e3_mono (sM_next L xs _ _ _ h) (fun r H3 G4 h => ?_)
  obtain ⟨rfl, h⟩ := h
  change e3_Ev _ _ _ _ 88 [(2, 40), (0, l1), (0, l2)] [] H3 G4 _
  refine e3_K [0, 0, 0, 0] 92 [(2, 40), (0, l1), (0, l2)] [(0, (e3_w32 (l1 + 1))), (2, 40)] (H3) (G4) (wZ L xs) (M := tbM236) rfl rfl trivial ?_
  refine e3_call (o := 0) (k := 237) (M2 := tbM237) (f1 := 6) (w1 := 133) (as := [(2, 40), (0, (e3_w32 (l1 + 1)))]) (rest := []) (M := tbM236) rfl rfl rfl trivial (Nat.le_of_ble_eq_true rfl) (Nat.le_of_ble_eq_true rfl) (Nat.le_of_ble_eq_true rfl) ?_
  refine e3_mono (sM_readTerm L xs _ _ _ _ h) (fun r H6 G7 h => ?_)
  obtain ⟨rfl, h⟩ := h
  change e3_Ev _ _ _ _ 95 [(2, 40), (0, l1), (0, l2)] [] H6 G7 _
  refine e3_fgt [false, false, false] ?_
  exact sM_readSum_95 L xs Q _ _ h
set_option maxRecDepth 100000 in
set_option maxHeartbeats 4000000 in
theorem sM_readSum (L : Nat) (xs : Nat → Int32) (Q : e3_H → e3_G → Prop) (l1 : Int) (l2 : Int) (H : e3_H) (G : e3_G) (h : wM_readSum Q l1 l2 H G) : e3_Ev (wB L xs) 7 154 236 0 [(2, 40), (0, l1), (0, l2)] [] H G (e3_qv Q) := by
  unfold wM_readSum at h
  refine e3_K [0, 0] 2 [(2, 40), (0, l1), (0, l2)] [(0, l1), (2, 40)] (H) (G) (wZ L xs) (M := tbM236) rfl rfl trivial ?_
  refine e3_call (o := 0) (k := 237) (M2 := tbM237) (f1 := 6) (w1 := 133) (as := [(2, 40), (0, l1)]) (rest := []) (M := tbM236) rfl rfl rfl trivial (Nat.le_of_ble_eq_true rfl) (Nat.le_of_ble_eq_true rfl) (Nat.le_of_ble_eq_true rfl) ?_
  refine e3_mono (sM_readTerm L xs _ _ _ _ h) (fun r H1 G2 h => ?_)
  obtain ⟨rfl, h⟩ := h
  change e3_Ev _ _ _ _ 5 [(2, 40), (0, l1), (0, l2)] [] H1 G2 _
  obtain ⟨o5, h⟩ := h
  refine e3_K [0, 4, 0, 0, 0, 0, 2] 14 [(2, 40), (0, l1), (0, l2)] [] (e3_up H1 75 (e3_w32 (l1 + 1)) 0) (G2) (wZ L xs) (M := tbM236) rfl rfl ⟨trivial, o5, trivial⟩ ?_
  generalize hH4 : (e3_up H1 75 (e3_w32 (l1 + 1)) 0) = H4
  replace h := h H4 hH4.symm
  obtain ⟨o7, h⟩ := h
  refine e3_K [0, 4, 0, 0, 2] 21 [(2, 40), (0, l1), (0, l2)] [] (e3_up H4 77 l2 0) (G2) (wZ L xs) (M := tbM236) rfl rfl ⟨trivial, o7, trivial⟩ ?_
  generalize hH6 : (e3_up H4 77 l2 0) = H6
  replace h := h H6 hH6.symm
  refine e3_K [0, 2] 25 [(2, 40), (0, l1), (0, l2)] [(0, (H6 40 7))] (H6) (G2) (wZ L xs) (M := tbM236) rfl rfl ⟨trivial, trivial⟩ ?_
  refine e3_br (M := tbM236) rfl rfl rfl Iff.rfl (fun hc => ?_) (fun hc => ?_)
  · replace h := h.1 hc
    refine e3_K [0, 0] 31 [(2, 40), (0, l1), (0, l2)] [(0, 43), (2, 40)] (H6) (G2) (wZ L xs) (M := tbM236) rfl rfl trivial ?_
    refine e3_call (o := 0) (k := 215) (M2 := tbM215) (f1 := 0) (w1 := 0) (as := [(2, 40), (0, 43)]) (rest := []) (M := tbM236) rfl rfl rfl trivial (Nat.le_of_ble_eq_true rfl) (Nat.le_of_ble_eq_true rfl) (Nat.le_of_ble_eq_true rfl) ?_
    refine e3_mono (sM_isSign L xs _ _ _ _ h) (fun r H8 G9 h => ?_)
    obtain ⟨x10, rfl, h⟩ := h
    change e3_Ev _ _ _ _ 34 [(2, 40), (0, l1), (0, l2)] [(0, x10)] H8 G9 _
    refine e3_br (M := tbM236) rfl rfl rfl Iff.rfl (fun hc => ?_) (fun hc => ?_)
    · replace h := h.1 hc
      refine e3_K [0, 0] 40 [(2, 40), (0, l1), (0, l2)] [(0, 45), (2, 40)] (H8) (G9) (wZ L xs) (M := tbM236) rfl rfl trivial ?_
      refine e3_call (o := 0) (k := 215) (M2 := tbM215) (f1 := 0) (w1 := 0) (as := [(2, 40), (0, 45)]) (rest := []) (M := tbM236) rfl rfl rfl trivial (Nat.le_of_ble_eq_true rfl) (Nat.le_of_ble_eq_true rfl) (Nat.le_of_ble_eq_true rfl) ?_
      refine e3_mono (sM_isSign L xs _ _ _ _ h) (fun r H11 G12 h => ?_)
      obtain ⟨x13, rfl, h⟩ := h
      change e3_Ev _ _ _ _ 43 [(2, 40), (0, l1), (0, l2)] [(0, x13)] H11 G12 _
      refine e3_br (M := tbM236) rfl rfl rfl Iff.rfl (fun hc => ?_) (fun hc => ?_)
      · replace h := h.1 hc
        refine e3_K [0, 0] 49 [(2, 40), (0, l1), (0, l2)] [(0, 42), (2, 40)] (H11) (G12) (wZ L xs) (M := tbM236) rfl rfl trivial ?_
        refine e3_call (o := 0) (k := 215) (M2 := tbM215) (f1 := 0) (w1 := 0) (as := [(2, 40), (0, 42)]) (rest := []) (M := tbM236) rfl rfl rfl trivial (Nat.le_of_ble_eq_true rfl) (Nat.le_of_ble_eq_true rfl) (Nat.le_of_ble_eq_true rfl) ?_
        refine e3_mono (sM_isSign L xs _ _ _ _ h) (fun r H14 G15 h => ?_)
        obtain ⟨x16, rfl, h⟩ := h
        change e3_Ev _ _ _ _ 52 [(2, 40), (0, l1), (0, l2)] [(0, x16)] H14 G15 _
        refine e3_br (M := tbM236) rfl rfl rfl Iff.rfl (fun hc => ?_) (fun hc => ?_)
        · replace h := h.1 hc
          refine e3_K [0, 0] 58 [(2, 40), (0, l1), (0, l2)] [(0, 47), (2, 40)] (H14) (G15) (wZ L xs) (M := tbM236) rfl rfl trivial ?_
          refine e3_call (o := 0) (k := 215) (M2 := tbM215) (f1 := 0) (w1 := 0) (as := [(2, 40), (0, 47)]) (rest := []) (M := tbM236) rfl rfl rfl trivial (Nat.le_of_ble_eq_true rfl) (Nat.le_of_ble_eq_true rfl) (Nat.le_of_ble_eq_true rfl) ?_
          refine e3_mono (sM_isSign L xs _ _ _ _ h) (fun r H17 G18 h => ?_)
          obtain ⟨x19, rfl, h⟩ := h
          change e3_Ev _ _ _ _ 61 [(2, 40), (0, l1), (0, l2)] [(0, x19)] H17 G18 _
          refine e3_br (M := tbM236) rfl rfl rfl Iff.rfl (fun hc => ?_) (fun hc => ?_)
          · replace h := h.1 hc
            refine e3_K [0, 0] 67 [(2, 40), (0, l1), (0, l2)] [(0, 37), (2, 40)] (H17) (G18) (wZ L xs) (M := tbM236) rfl rfl trivial ?_
            refine e3_call (o := 0) (k := 215) (M2 := tbM215) (f1 := 0) (w1 := 0) (as := [(2, 40), (0, 37)]) (rest := []) (M := tbM236) rfl rfl rfl trivial (Nat.le_of_ble_eq_true rfl) (Nat.le_of_ble_eq_true rfl) (Nat.le_of_ble_eq_true rfl) ?_
            refine e3_mono (sM_isSign L xs _ _ _ _ h) (fun r H20 G21 h => ?_)
            obtain ⟨x22, rfl, h⟩ := h
            change e3_Ev _ _ _ _ 70 [(2, 40), (0, l1), (0, l2)] [(0, x22)] H20 G21 _
            refine e3_br (M := tbM236) rfl rfl rfl Iff.rfl (fun hc => ?_) (fun hc => ?_)
            · replace h := h.1 hc
              refine e3_fgt [false, false, false] ?_
              exact sM_readSum_95 L xs Q _ _ h
            · replace h := h.2 hc
              exact sM_readSum_73 L xs Q _ _ _ _ h
          · replace h := h.2 hc
            exact sM_readSum_73 L xs Q _ _ _ _ h
        · replace h := h.2 hc
          exact sM_readSum_73 L xs Q _ _ _ _ h
      · replace h := h.2 hc
        exact sM_readSum_73 L xs Q _ _ _ _ h
    · replace h := h.2 hc
      exact sM_readSum_73 L xs Q _ _ _ _ h
  · replace h := h.2 hc
    refine e3_fgt [false, false, false] ?_
    exact sM_readSum_95 L xs Q _ _ h
/-- LetterPostModel.readGuard()V -/
def wM_readGuard_25 (Q : e3_H → e3_G → Prop)  (H : e3_H) (G : e3_G) : Prop :=
  Q H G
def wM_readGuard_87 (Q : e3_H → e3_G → Prop)  (H : e3_H) (G : e3_G) : Prop :=
  ((0 : Int) ≤ (H 40 27) ∧ ((H 40 27) : Int) < 192) ∧ ∀ H1 : e3_H, H1 = e3_up H 78 (H 40 27) (e3_w32 (H 40 4)) → (wM_next (fun H3 G4 => (wM_readSum (fun H6 G7 => Q H6 G7) (e3_w32 ((e3_w32 (4 * (H3 40 27))) + 2)) (e3_w32 ((e3_w32 (2 * (H3 40 27))) + 1)) H3 G4)) H1 G)
def wM_readGuard (Q : e3_H → e3_G → Prop)  (H : e3_H) (G : e3_G) : Prop :=
  ((0 : Int) ≤ (H 40 27) ∧ ((H 40 27) : Int) < 192) ∧ ∀ H1 : e3_H, H1 = e3_up H 78 (H 40 27) 0 → ((((H1 40 7) : Int) = 0 → (wM_isWord (fun x5 H3 G4 => (((x5 : Int) = 0 → (wM_readGuard_25 Q H3 G4)) ∧ (¬ ((x5 : Int) = 0) → (wM_next (fun H6 G7 => (wM_readSum (fun H9 G10 => ((((H9 40 7) : Int) = 0 → (wM_isSign (fun x14 H12 G13 => (((x14 : Int) = 0 → (wM_isSign (fun x17 H15 G16 => (((x17 : Int) = 0 → (wM_isSign (fun x20 H18 G19 => (((x20 : Int) = 0 → (wM_stop (fun H21 G22 => Q H21 G22) 2 H18 G19)) ∧ (¬ ((x20 : Int) = 0) → (wM_readGuard_87 Q H18 G19)))) 62 H15 G16)) ∧ (¬ ((x17 : Int) = 0) → (wM_readGuard_87 Q H15 G16)))) 61 H12 G13)) ∧ (¬ ((x14 : Int) = 0) → (wM_readGuard_87 Q H12 G13)))) 60 H9 G10)) ∧ (¬ (((H9 40 7) : Int) = 0) → Q H9 G10))) (e3_w32 (4 * (H6 40 27))) (e3_w32 (2 * (H6 40 27))) H6 G7)) H3 G4)))) 3 H1 G)) ∧ (¬ (((H1 40 7) : Int) = 0) → (wM_readGuard_25 Q H1 G)))
set_option maxRecDepth 100000 in
set_option maxHeartbeats 4000000 in
theorem sM_readGuard_25 (L : Nat) (xs : Nat → Int32) (Q : e3_H → e3_G → Prop)  (H : e3_H) (G : e3_G) (h : wM_readGuard_25 Q  H G) : e3_Ev (wB L xs) 8 176 235 25 [(3, 0)] [] H G (e3_qv Q) := by
  unfold wM_readGuard_25 at h
  exact e3_retv (M := tbM235) rfl rfl rfl ⟨rfl, h⟩
set_option maxRecDepth 100000 in
set_option maxHeartbeats 4000000 in
theorem sM_readGuard_87 (L : Nat) (xs : Nat → Int32) (Q : e3_H → e3_G → Prop)  (H : e3_H) (G : e3_G) (h : wM_readGuard_87 Q  H G) : e3_Ev (wB L xs) 8 176 235 87 [(2, 40)] [] H G (e3_qv Q) := by
  unfold wM_readGuard_87 at h
  obtain ⟨o2, h⟩ := h
  refine e3_K [0, 4, 0, 2, 0, 2, 0, 2] 101 [(2, 40)] [] (e3_up H 78 (H 40 27) (e3_w32 (H 40 4))) (G) (wZ L xs) (M := tbM235) rfl rfl ⟨trivial, trivial, trivial, o2, trivial⟩ ?_
  generalize hH1 : (e3_up H 78 (H 40 27) (e3_w32 (H 40 4))) = H1
  replace h := h H1 hH1.symm
  refine e3_K [0] 102 [(2, 40)] [(2, 40)] (H1) (G) (wZ L xs) (M := tbM235) rfl rfl trivial ?_
  refine e3_call (o := 0) (k := 201) (M2 := tbM201) (f1 := 3) (w1 := 67) (as := [(2, 40)]) (rest := []) (M := tbM235) rfl rfl rfl trivial (Nat.le_of_ble_eq_true rfl) (Nat.le_of_ble_eq_true rfl) (Nat.le_of_ble_eq_true rfl) ?_
  refine e3_mono (sM_next L xs _ _ _ h) (fun r H3 G4 h => ?_)
  obtain ⟨rfl, h⟩ := h
  change e3_Ev _ _ _ _ 105 [(2, 40)] [] H3 G4 _
  refine e3_K [0, 0, 0, 2, 0, 0, 0, 0, 0, 2, 0, 0, 0] 122 [(2, 40)] [(0, (e3_w32 ((e3_w32 (2 * (H3 40 27))) + 1))), (0, (e3_w32 ((e3_w32 (4 * (H3 40 27))) + 2))), (2, 40)] (H3) (G4) (wZ L xs) (M := tbM235) rfl rfl ⟨trivial, trivial, trivial⟩ ?_
  refine e3_call (o := 0) (k := 236) (M2 := tbM236) (f1 := 7) (w1 := 154) (as := [(2, 40), (0, (e3_w32 ((e3_w32 (4 * (H3 40 27))) + 2))), (0, (e3_w32 ((e3_w32 (2 * (H3 40 27))) + 1)))]) (rest := []) (M := tbM235) rfl rfl rfl trivial (Nat.le_of_ble_eq_true rfl) (Nat.le_of_ble_eq_true rfl) (Nat.le_of_ble_eq_true rfl) ?_
  refine e3_mono (sM_readSum L xs _ _ _ _ _ h) (fun r H6 G7 h => ?_)
  obtain ⟨rfl, h⟩ := h
  change e3_Ev _ _ _ _ 125 [(2, 40)] [] H6 G7 _
  exact e3_retv (M := tbM235) rfl rfl rfl ⟨rfl, h⟩
set_option maxRecDepth 100000 in
set_option maxHeartbeats 4000000 in
theorem sM_readGuard (L : Nat) (xs : Nat → Int32) (Q : e3_H → e3_G → Prop)  (H : e3_H) (G : e3_G) (h : wM_readGuard Q  H G) : e3_Ev (wB L xs) 8 176 235 0 [(2, 40)] [] H G (e3_qv Q) := by
  unfold wM_readGuard at h
  obtain ⟨o2, h⟩ := h
  refine e3_K [0, 4, 0, 2, 0, 2] 10 [(2, 40)] [] (e3_up H 78 (H 40 27) 0) (G) (wZ L xs) (M := tbM235) rfl rfl ⟨trivial, trivial, o2, trivial⟩ ?_
  generalize hH1 : (e3_up H 78 (H 40 27) 0) = H1
  replace h := h H1 hH1.symm
  refine e3_K [0, 2] 14 [(2, 40)] [(0, (H1 40 7))] (H1) (G) (wZ L xs) (M := tbM235) rfl rfl ⟨trivial, trivial⟩ ?_
  refine e3_br (M := tbM235) rfl rfl rfl Iff.rfl (fun hc => ?_) (fun hc => ?_)
  · replace h := h.1 hc
    refine e3_K [0, 0] 19 [(2, 40)] [(0, 3), (2, 40)] (H1) (G) (wZ L xs) (M := tbM235) rfl rfl trivial ?_
    refine e3_call (o := 0) (k := 207) (M2 := tbM207) (f1 := 0) (w1 := 0) (as := [(2, 40), (0, 3)]) (rest := []) (M := tbM235) rfl rfl rfl trivial (Nat.le_of_ble_eq_true rfl) (Nat.le_of_ble_eq_true rfl) (Nat.le_of_ble_eq_true rfl) ?_
    refine e3_mono (sM_isWord L xs _ _ _ _ h) (fun r H3 G4 h => ?_)
    obtain ⟨x5, rfl, h⟩ := h
    change e3_Ev _ _ _ _ 22 [(2, 40)] [(0, x5)] H3 G4 _
    refine e3_br (M := tbM235) rfl rfl rfl Iff.rfl (fun hc => ?_) (fun hc => ?_)
    · replace h := h.1 hc
      refine e3_fgt [false] ?_
      exact sM_readGuard_25 L xs Q _ _ h
    · replace h := h.2 hc
      refine e3_K [0] 27 [(2, 40)] [(2, 40)] (H3) (G4) (wZ L xs) (M := tbM235) rfl rfl trivial ?_
      refine e3_call (o := 0) (k := 201) (M2 := tbM201) (f1 := 3) (w1 := 67) (as := [(2, 40)]) (rest := []) (M := tbM235) rfl rfl rfl trivial (Nat.le_of_ble_eq_true rfl) (Nat.le_of_ble_eq_true rfl) (Nat.le_of_ble_eq_true rfl) ?_
      refine e3_mono (sM_next L xs _ _ _ h) (fun r H6 G7 h => ?_)
      obtain ⟨rfl, h⟩ := h
      change e3_Ev _ _ _ _ 30 [(2, 40)] [] H6 G7 _
      refine e3_K [0, 0, 0, 2, 0, 0, 0, 2, 0] 43 [(2, 40)] [(0, (e3_w32 (2 * (H6 40 27)))), (0, (e3_w32 (4 * (H6 40 27)))), (2, 40)] (H6) (G7) (wZ L xs) (M := tbM235) rfl rfl ⟨trivial, trivial, trivial⟩ ?_
      refine e3_call (o := 0) (k := 236) (M2 := tbM236) (f1 := 7) (w1 := 154) (as := [(2, 40), (0, (e3_w32 (4 * (H6 40 27)))), (0, (e3_w32 (2 * (H6 40 27))))]) (rest := []) (M := tbM235) rfl rfl rfl trivial (Nat.le_of_ble_eq_true rfl) (Nat.le_of_ble_eq_true rfl) (Nat.le_of_ble_eq_true rfl) ?_
      refine e3_mono (sM_readSum L xs _ _ _ _ _ h) (fun r H9 G10 h => ?_)
      obtain ⟨rfl, h⟩ := h
      change e3_Ev _ _ _ _ 46 [(2, 40)] [] H9 G10 _
      refine e3_K [0, 2] 50 [(2, 40)] [(0, (H9 40 7))] (H9) (G10) (wZ L xs) (M := tbM235) rfl rfl ⟨trivial, trivial⟩ ?_
      refine e3_br (M := tbM235) rfl rfl rfl Iff.rfl (fun hc => ?_) (fun hc => ?_)
      · replace h := h.1 hc
        refine e3_K [0, 0] 57 [(2, 40)] [(0, 60), (2, 40)] (H9) (G10) (wZ L xs) (M := tbM235) rfl rfl trivial ?_
        refine e3_call (o := 0) (k := 215) (M2 := tbM215) (f1 := 0) (w1 := 0) (as := [(2, 40), (0, 60)]) (rest := []) (M := tbM235) rfl rfl rfl trivial (Nat.le_of_ble_eq_true rfl) (Nat.le_of_ble_eq_true rfl) (Nat.le_of_ble_eq_true rfl) ?_
        refine e3_mono (sM_isSign L xs _ _ _ _ h) (fun r H12 G13 h => ?_)
        obtain ⟨x14, rfl, h⟩ := h
        change e3_Ev _ _ _ _ 60 [(2, 40)] [(0, x14)] H12 G13 _
        refine e3_br (M := tbM235) rfl rfl rfl Iff.rfl (fun hc => ?_) (fun hc => ?_)
        · replace h := h.1 hc
          refine e3_K [0, 0] 66 [(2, 40)] [(0, 61), (2, 40)] (H12) (G13) (wZ L xs) (M := tbM235) rfl rfl trivial ?_
          refine e3_call (o := 0) (k := 215) (M2 := tbM215) (f1 := 0) (w1 := 0) (as := [(2, 40), (0, 61)]) (rest := []) (M := tbM235) rfl rfl rfl trivial (Nat.le_of_ble_eq_true rfl) (Nat.le_of_ble_eq_true rfl) (Nat.le_of_ble_eq_true rfl) ?_
          refine e3_mono (sM_isSign L xs _ _ _ _ h) (fun r H15 G16 h => ?_)
          obtain ⟨x17, rfl, h⟩ := h
          change e3_Ev _ _ _ _ 69 [(2, 40)] [(0, x17)] H15 G16 _
          refine e3_br (M := tbM235) rfl rfl rfl Iff.rfl (fun hc => ?_) (fun hc => ?_)
          · replace h := h.1 hc
            refine e3_K [0, 0] 75 [(2, 40)] [(0, 62), (2, 40)] (H15) (G16) (wZ L xs) (M := tbM235) rfl rfl trivial ?_
            refine e3_call (o := 0) (k := 215) (M2 := tbM215) (f1 := 0) (w1 := 0) (as := [(2, 40), (0, 62)]) (rest := []) (M := tbM235) rfl rfl rfl trivial (Nat.le_of_ble_eq_true rfl) (Nat.le_of_ble_eq_true rfl) (Nat.le_of_ble_eq_true rfl) ?_
            refine e3_mono (sM_isSign L xs _ _ _ _ h) (fun r H18 G19 h => ?_)
            obtain ⟨x20, rfl, h⟩ := h
            change e3_Ev _ _ _ _ 78 [(2, 40)] [(0, x20)] H18 G19 _
            refine e3_br (M := tbM235) rfl rfl rfl Iff.rfl (fun hc => ?_) (fun hc => ?_)
            · replace h := h.1 hc
              refine e3_K [0, 0] 83 [(2, 40)] [(0, 2), (2, 40)] (H18) (G19) (wZ L xs) (M := tbM235) rfl rfl trivial ?_
              refine e3_call (o := 0) (k := 209) (M2 := tbM209) (f1 := 1) (w1 := 22) (as := [(2, 40), (0, 2)]) (rest := []) (M := tbM235) rfl rfl rfl trivial (Nat.le_of_ble_eq_true rfl) (Nat.le_of_ble_eq_true rfl) (Nat.le_of_ble_eq_true rfl) ?_
              refine e3_mono (sM_stop L xs _ _ _ _ h) (fun r H21 G22 h => ?_)
              obtain ⟨rfl, h⟩ := h
              change e3_Ev _ _ _ _ 86 [(2, 40)] [] H21 G22 _
              exact e3_retv (M := tbM235) rfl rfl rfl ⟨rfl, h⟩
            · replace h := h.2 hc
              exact sM_readGuard_87 L xs Q _ _ h
          · replace h := h.2 hc
            exact sM_readGuard_87 L xs Q _ _ h
        · replace h := h.2 hc
          exact sM_readGuard_87 L xs Q _ _ h
      · replace h := h.2 hc
        exact e3_retv (M := tbM235) rfl rfl rfl ⟨rfl, h⟩
  · replace h := h.2 hc
    refine e3_fgt [false] ?_
    exact sM_readGuard_25 L xs Q _ _ h
/-- LetterPostModel.readAnswer()V -/
def wM_readAnswer_329 (Q : e3_H → e3_G → Prop)  (H : e3_H) (G : e3_G) : Prop :=
  (wM_must (fun H1 G2 => Q H1 G2) 41 H G)
def wM_readAnswer_319 (Q : e3_H → e3_G → Prop) (k202 : Int → e3_H → e3_G → Prop)  (H : e3_H) (G : e3_G) : Prop :=
  (wM_takes (fun x3 H1 G2 => (k202 x3 H1 G2)) 44 H G)
def wM_readAnswer_295 (Q : e3_H → e3_G → Prop) (k202 : Int → e3_H → e3_G → Prop)  (H : e3_H) (G : e3_G) : Prop :=
  ((0 : Int) ≤ (H 40 27) ∧ ((H 40 27) : Int) < 192) ∧ ((0 : Int) ≤ (H 40 27) ∧ ((H 40 27) : Int) < 192) ∧ ∀ H1 : e3_H, H1 = e3_up H 83 (H 40 27) (e3_w32 ((H 83 (H 40 27)) + 1)) → ((((H1 40 7) : Int) = 0 → (wM_next (fun H4 G5 => (wM_readAnswer_319 Q k202 H4 G5)) H1 G)) ∧ (¬ (((H1 40 7) : Int) = 0) → (wM_readAnswer_319 Q k202 H1 G)))
def wM_readAnswer_202 (Q : e3_H → e3_G → Prop) : Nat → Int → e3_H → e3_G → Prop
  | 0, _, _, _ => False
  | nn + 1, l3, H, G => (((l3 : Int) = 0 → (wM_readAnswer_329 Q H G)) ∧ (¬ ((l3 : Int) = 0) → ((((H 40 7) : Int) = 0 → ((((H 40 3) : Int) = 1 → (wM_boundName (fun x3 H1 G2 => ((0 : Int) ≤ (H1 40 27) ∧ ((H1 40 27) : Int) < 192) ∧ ((((H1 83 (H1 40 27)) : Int) < 3 → ((0 : Int) ≤ (H1 40 27) ∧ ((H1 40 27) : Int) < 192) ∧ ((0 : Int) ≤ (e3_w32 ((e3_w32 (3 * (H1 40 27))) + (H1 83 (H1 40 27)))) ∧ ((e3_w32 ((e3_w32 (3 * (H1 40 27))) + (H1 83 (H1 40 27)))) : Int) < 576) ∧ ∀ H5 : e3_H, H5 = e3_up H1 84 (e3_w32 ((e3_w32 (3 * (H1 40 27))) + (H1 83 (H1 40 27)))) x3 → ((0 : Int) ≤ (H5 40 27) ∧ ((H5 40 27) : Int) < 192) ∧ ((0 : Int) ≤ (e3_w32 ((e3_w32 (3 * (H5 40 27))) + (H5 83 (H5 40 27)))) ∧ ((e3_w32 ((e3_w32 (3 * (H5 40 27))) + (H5 83 (H5 40 27)))) : Int) < 576) ∧ ∀ H8 : e3_H, H8 = e3_up H5 85 (e3_w32 ((e3_w32 (3 * (H5 40 27))) + (H5 83 (H5 40 27)))) (H5 40 5) → (wM_readAnswer_295 Q (fun l3 H G => wM_readAnswer_202 Q nn l3 H G) H8 G2)) ∧ (¬ (((H1 83 (H1 40 27)) : Int) < 3) → (wM_readAnswer_295 Q (fun l3 H G => wM_readAnswer_202 Q nn l3 H G) H1 G2)))) 0 H G)) ∧ (¬ (((H 40 3) : Int) = 1) → (wM_stop (fun H11 G12 => Q H11 G12) 2 H G)))) ∧ (¬ (((H 40 7) : Int) = 0) → (wM_readAnswer_329 Q H G)))))
def wM_readAnswer_185 (Q : e3_H → e3_G → Prop)  (H : e3_H) (G : e3_G) : Prop :=
  Q H G
def wM_readAnswer_153 (Q : e3_H → e3_G → Prop) (l2 : Int) (H : e3_H) (G : e3_G) : Prop :=
  (wM_fails (fun H1 G2 => (wM_readAnswer_185 Q H1 G2)) 4 l2 H G)
def wM_readAnswer_64 (Q : e3_H → e3_G → Prop)  (H : e3_H) (G : e3_G) : Prop :=
  (wM_number (fun x3 H1 G2 => ((0 : Int) ≤ (H 40 27) ∧ ((H 40 27) : Int) < 192) ∧ ∀ H4 : e3_H, H4 = e3_up H1 80 (H 40 27) x3 → Q H4 G2) H G)
def wM_readAnswer (Q : e3_H → e3_G → Prop)  (H : e3_H) (G : e3_G) : Prop :=
  ((0 : Int) ≤ (H 40 27) ∧ ((H 40 27) : Int) < 192) ∧ ∀ H1 : e3_H, H1 = e3_up H 82 (H 40 27) (H 40 5) → ((0 : Int) ≤ (H1 40 27) ∧ ((H1 40 27) : Int) < 192) ∧ ∀ H3 : e3_H, H3 = e3_up H1 83 (H1 40 27) 0 → ((((H3 40 3) : Int) = 1 → ((0 : Int) ≤ (H3 40 27) ∧ ((H3 40 27) : Int) < 192) ∧ ∀ H5 : e3_H, H5 = e3_up H3 81 (H3 40 27) (H3 40 4) → (wM_nameOf (fun x9 H7 G8 => (wM_next (fun H10 G11 => (wM_isSign (fun x15 H13 G14 => (((x15 : Int) = 0 → ((0 : Int) ≤ (H13 40 27) ∧ ((H13 40 27) : Int) < 192) ∧ ∀ H16 : e3_H, H16 = e3_up H13 79 (H13 40 27) 1 → ((0 : Int) ≤ (H16 40 27) ∧ ((H16 40 27) : Int) < 192) ∧ ∀ H18 : e3_H, H18 = e3_up H16 80 (H16 40 27) x9 → (((x9 : Int) < 0 → (wM_readAnswer_153 Q (H7 40 5) H18 G14)) ∧ (¬ ((x9 : Int) < 0) → ((((e3_and (e3_shr (H18 40 31) x9) 1) : Int) = 0 → (wM_readAnswer_153 Q (H7 40 5) H18 G14)) ∧ (¬ (((e3_and (e3_shr (H18 40 31) x9) 1) : Int) = 0) → ((0 : Int) ≤ (e3_w32 ((e3_w32 (8 * (H18 40 27))) + x9)) ∧ ((e3_w32 ((e3_w32 (8 * (H18 40 27))) + x9)) : Int) < 1536) ∧ ((((H18 58 (e3_w32 ((e3_w32 (8 * (H18 40 27))) + x9))) : Int) = 0 → (wM_readAnswer_185 Q H18 G14)) ∧ (¬ (((H18 58 (e3_w32 ((e3_w32 (8 * (H18 40 27))) + x9))) : Int) = 0) → (wM_fails (fun H21 G22 => (wM_readAnswer_185 Q H21 G22)) 5 (H7 40 5) H18 G14)))))))) ∧ (¬ ((x15 : Int) = 0) → ((0 : Int) ≤ (H13 40 27) ∧ ((H13 40 27) : Int) < 192) ∧ ∀ H24 : e3_H, H24 = e3_up H13 79 (H13 40 27) 2 → (wM_next (fun H26 G27 => (∃ n, wM_readAnswer_202 Q n 1 H26 G27)) H24 G14)))) 40 H10 G11)) H7 G8)) (H5 40 4) H5 G)) ∧ (¬ (((H3 40 3) : Int) = 1) → ((0 : Int) ≤ (H3 40 27) ∧ ((H3 40 27) : Int) < 192) ∧ ∀ H29 : e3_H, H29 = e3_up H3 79 (H3 40 27) 0 → ((((H29 40 3) : Int) = 3 → (wM_readAnswer_64 Q H29 G)) ∧ (¬ (((H29 40 3) : Int) = 3) → (wM_isSign (fun x33 H31 G32 => (((x33 : Int) = 0 → (wM_stop (fun H34 G35 => Q H34 G35) 2 H31 G32)) ∧ (¬ ((x33 : Int) = 0) → (wM_readAnswer_64 Q H31 G32)))) 45 H29 G)))))
set_option maxRecDepth 100000 in
set_option maxHeartbeats 4000000 in
theorem sM_readAnswer_329 (L : Nat) (xs : Nat → Int32) (Q : e3_H → e3_G → Prop)  (H : e3_H) (G : e3_G) (h : wM_readAnswer_329 Q  H G) : e3_Ev (wB L xs) 6 133 239 329 [(2, 40), (3, 0), (3, 0), (3, 0), (3, 0)] [] H G (e3_qv Q) := by
  unfold wM_readAnswer_329 at h
  refine e3_K [0, 0] 332 [(2, 40), (3, 0), (3, 0), (3, 0), (3, 0)] [(0, 41), (2, 40)] (H) (G) (wZ L xs) (M := tbM239) rfl rfl trivial ?_
  refine e3_call (o := 0) (k := 217) (M2 := tbM217) (f1 := 5) (w1 := 111) (as := [(2, 40), (0, 41)]) (rest := []) (M := tbM239) rfl rfl rfl trivial (Nat.le_of_ble_eq_true rfl) (Nat.le_of_ble_eq_true rfl) (Nat.le_of_ble_eq_true rfl) ?_
  refine e3_mono (sM_must L xs _ _ _ _ h) (fun r H1 G2 h => ?_)
  obtain ⟨rfl, h⟩ := h
  change e3_Ev _ _ _ _ 335 [(2, 40), (3, 0), (3, 0), (3, 0), (3, 0)] [] H1 G2 _
  exact e3_retv (M := tbM239) rfl rfl rfl ⟨rfl, h⟩
set_option maxRecDepth 100000 in
set_option maxHeartbeats 4000000 in
theorem sM_readAnswer_319 (L : Nat) (xs : Nat → Int32) (Q : e3_H → e3_G → Prop) (k202 : Int → e3_H → e3_G → Prop) (hk202 : ∀ (l3 : Int) (H : e3_H) (G : e3_G), k202 l3 H G → e3_Ev (wB L xs) 6 133 239 202 [(2, 40), (3, 0), (3, 0), (0, l3), (3, 0)] [] H G (e3_qv Q))  (H : e3_H) (G : e3_G) (h : wM_readAnswer_319 Q k202  H G) : e3_Ev (wB L xs) 6 133 239 319 [(2, 40), (3, 0), (3, 0), (3, 0), (3, 0)] [] H G (e3_qv Q) := by
  unfold wM_readAnswer_319 at h
  refine e3_K [0, 0] 322 [(2, 40), (3, 0), (3, 0), (3, 0), (3, 0)] [(0, 44), (2, 40)] (H) (G) (wZ L xs) (M := tbM239) rfl rfl trivial ?_
  refine e3_call (o := 0) (k := 214) (M2 := tbM214) (f1 := 4) (w1 := 89) (as := [(2, 40), (0, 44)]) (rest := []) (M := tbM239) rfl rfl rfl trivial (Nat.le_of_ble_eq_true rfl) (Nat.le_of_ble_eq_true rfl) (Nat.le_of_ble_eq_true rfl) ?_
  refine e3_mono (sM_takes L xs _ _ _ _ h) (fun r H1 G2 h => ?_)
  obtain ⟨x3, rfl, h⟩ := h
  change e3_Ev _ _ _ _ 325 [(2, 40), (3, 0), (3, 0), (3, 0), (3, 0)] [(0, x3)] H1 G2 _
  refine e3_K [0, 0] 202 [(2, 40), (3, 0), (3, 0), (0, x3), (3, 0)] [] (H1) (G2) (wZ L xs) (M := tbM239) rfl rfl trivial ?_
  exact hk202 _ _ _ h
set_option maxRecDepth 100000 in
set_option maxHeartbeats 4000000 in
theorem sM_readAnswer_295 (L : Nat) (xs : Nat → Int32) (Q : e3_H → e3_G → Prop) (k202 : Int → e3_H → e3_G → Prop) (hk202 : ∀ (l3 : Int) (H : e3_H) (G : e3_G), k202 l3 H G → e3_Ev (wB L xs) 6 133 239 202 [(2, 40), (3, 0), (3, 0), (0, l3), (3, 0)] [] H G (e3_qv Q))  (H : e3_H) (G : e3_G) (h : wM_readAnswer_295 Q k202  H G) : e3_Ev (wB L xs) 6 133 239 295 [(2, 40), (3, 0), (3, 0), (3, 0), (3, 0)] [] H G (e3_qv Q) := by
  unfold wM_readAnswer_295 at h
  obtain ⟨o2, o3, h⟩ := h
  refine e3_K [0, 4, 0, 2, 0, 2, 0, 0, 2] 308 [(2, 40), (3, 0), (3, 0), (3, 0), (3, 0)] [] (e3_up H 83 (H 40 27) (e3_w32 ((H 83 (H 40 27)) + 1))) (G) (wZ L xs) (M := tbM239) rfl rfl ⟨trivial, trivial, o2, o3, trivial⟩ ?_
  generalize hH1 : (e3_up H 83 (H 40 27) (e3_w32 ((H 83 (H 40 27)) + 1))) = H1
  replace h := h H1 hH1.symm
  refine e3_K [0, 2] 312 [(2, 40), (3, 0), (3, 0), (3, 0), (3, 0)] [(0, (H1 40 7))] (H1) (G) (wZ L xs) (M := tbM239) rfl rfl ⟨trivial, trivial⟩ ?_
  refine e3_br (M := tbM239) rfl rfl rfl Iff.rfl (fun hc => ?_) (fun hc => ?_)
  · replace h := h.1 hc
    refine e3_K [0] 316 [(2, 40), (3, 0), (3, 0), (3, 0), (3, 0)] [(2, 40)] (H1) (G) (wZ L xs) (M := tbM239) rfl rfl trivial ?_
    refine e3_call (o := 0) (k := 201) (M2 := tbM201) (f1 := 3) (w1 := 67) (as := [(2, 40)]) (rest := []) (M := tbM239) rfl rfl rfl trivial (Nat.le_of_ble_eq_true rfl) (Nat.le_of_ble_eq_true rfl) (Nat.le_of_ble_eq_true rfl) ?_
    refine e3_mono (sM_next L xs _ _ _ h) (fun r H4 G5 h => ?_)
    obtain ⟨rfl, h⟩ := h
    change e3_Ev _ _ _ _ 319 [(2, 40), (3, 0), (3, 0), (3, 0), (3, 0)] [] H4 G5 _
    exact sM_readAnswer_319 L xs Q k202 hk202 _ _ h
  · replace h := h.2 hc
    exact sM_readAnswer_319 L xs Q k202 hk202 _ _ h
set_option maxRecDepth 100000 in
set_option maxHeartbeats 4000000 in
theorem sM_readAnswer_202 (L : Nat) (xs : Nat → Int32) (Q : e3_H → e3_G → Prop) : ∀ (nl : Nat) (l3 : Int) (H : e3_H) (G : e3_G), wM_readAnswer_202 Q nl l3 H G → e3_Ev (wB L xs) 6 133 239 202 [(2, 40), (3, 0), (3, 0), (0, l3), (3, 0)] [] H G (e3_qv Q) := by
  intro nl
  induction nl with
  | zero => intro l3 H G h; exact h.elim
  | succ nn ih =>
    intro l3 H G h
    have h : (((l3 : Int) = 0 → (wM_readAnswer_329 Q H G)) ∧ (¬ ((l3 : Int) = 0) → ((((H 40 7) : Int) = 0 → ((((H 40 3) : Int) = 1 → (wM_boundName (fun x3 H1 G2 => ((0 : Int) ≤ (H1 40 27) ∧ ((H1 40 27) : Int) < 192) ∧ ((((H1 83 (H1 40 27)) : Int) < 3 → ((0 : Int) ≤ (H1 40 27) ∧ ((H1 40 27) : Int) < 192) ∧ ((0 : Int) ≤ (e3_w32 ((e3_w32 (3 * (H1 40 27))) + (H1 83 (H1 40 27)))) ∧ ((e3_w32 ((e3_w32 (3 * (H1 40 27))) + (H1 83 (H1 40 27)))) : Int) < 576) ∧ ∀ H5 : e3_H, H5 = e3_up H1 84 (e3_w32 ((e3_w32 (3 * (H1 40 27))) + (H1 83 (H1 40 27)))) x3 → ((0 : Int) ≤ (H5 40 27) ∧ ((H5 40 27) : Int) < 192) ∧ ((0 : Int) ≤ (e3_w32 ((e3_w32 (3 * (H5 40 27))) + (H5 83 (H5 40 27)))) ∧ ((e3_w32 ((e3_w32 (3 * (H5 40 27))) + (H5 83 (H5 40 27)))) : Int) < 576) ∧ ∀ H8 : e3_H, H8 = e3_up H5 85 (e3_w32 ((e3_w32 (3 * (H5 40 27))) + (H5 83 (H5 40 27)))) (H5 40 5) → (wM_readAnswer_295 Q (fun l3 H G => wM_readAnswer_202 Q nn l3 H G) H8 G2)) ∧ (¬ (((H1 83 (H1 40 27)) : Int) < 3) → (wM_readAnswer_295 Q (fun l3 H G => wM_readAnswer_202 Q nn l3 H G) H1 G2)))) 0 H G)) ∧ (¬ (((H 40 3) : Int) = 1) → (wM_stop (fun H11 G12 => Q H11 G12) 2 H G)))) ∧ (¬ (((H 40 7) : Int) = 0) → (wM_readAnswer_329 Q H G))))) := h
    refine e3_K [0] 203 [(2, 40), (3, 0), (3, 0), (0, l3), (3, 0)] [(0, l3)] (H) (G) (wZ L xs) (M := tbM239) rfl rfl trivial ?_
    refine e3_br (M := tbM239) rfl rfl rfl Iff.rfl (fun hc => ?_) (fun hc => ?_)
    · replace h := h.1 hc
      refine e3_fgt [true, false, false, false, false] ?_
      exact sM_readAnswer_329 L xs Q _ _ h
    · replace h := h.2 hc
      refine e3_K [0, 2] 210 [(2, 40), (3, 0), (3, 0), (0, l3), (3, 0)] [(0, (H 40 7))] (H) (G) (wZ L xs) (M := tbM239) rfl rfl ⟨trivial, trivial⟩ ?_
      refine e3_br (M := tbM239) rfl rfl rfl Iff.rfl (fun hc => ?_) (fun hc => ?_)
      · replace h := h.1 hc
        refine e3_K [0, 2, 0] 218 [(2, 40), (3, 0), (3, 0), (0, l3), (3, 0)] [(0, 1), (0, (H 40 3))] (H) (G) (wZ L xs) (M := tbM239) rfl rfl ⟨trivial, trivial⟩ ?_
        refine e3_br (M := tbM239) rfl rfl rfl Iff.rfl (fun hc => ?_) (fun hc => ?_)
        · replace h := h.1 hc
          refine e3_K [0, 0] 229 [(2, 40), (3, 0), (3, 0), (0, l3), (3, 0)] [(0, 0), (2, 40)] (H) (G) (wZ L xs) (M := tbM239) rfl rfl trivial ?_
          refine e3_call (o := 0) (k := 238) (M2 := tbM238) (f1 := 1) (w1 := 24) (as := [(2, 40), (0, 0)]) (rest := []) (M := tbM239) rfl rfl rfl trivial (Nat.le_of_ble_eq_true rfl) (Nat.le_of_ble_eq_true rfl) (Nat.le_of_ble_eq_true rfl) ?_
          refine e3_mono (sM_boundName L xs _ _ _ _ h) (fun r H1 G2 h => ?_)
          obtain ⟨x3, rfl, h⟩ := h
          change e3_Ev _ _ _ _ 232 [(2, 40), (3, 0), (3, 0), (0, l3), (3, 0)] [(0, x3)] H1 G2 _
          obtain ⟨o4, h⟩ := h
          refine e3_K [0, 0, 4, 0, 2, 2, 0] 244 [(2, 40), (3, 0), (3, 0), (0, l3), (0, x3)] [(0, 3), (0, (H1 83 (H1 40 27)))] (H1) (G2) (wZ L xs) (M := tbM239) rfl rfl ⟨trivial, trivial, o4, trivial⟩ ?_
          refine e3_br (M := tbM239) rfl rfl rfl Iff.rfl (fun hc => ?_) (fun hc => ?_)
          · replace h := h.1 hc
            obtain ⟨o6, o7, h⟩ := h
            refine e3_K [0, 4, 0, 0, 2, 0, 0, 4, 0, 2, 2, 0, 0, 2] 270 [(2, 40), (3, 0), (3, 0), (0, l3), (0, x3)] [] (e3_up H1 84 (e3_w32 ((e3_w32 (3 * (H1 40 27))) + (H1 83 (H1 40 27)))) x3) (G2) (wZ L xs) (M := tbM239) rfl rfl ⟨trivial, trivial, trivial, trivial, o6, o7, trivial⟩ ?_
            generalize hH5 : (e3_up H1 84 (e3_w32 ((e3_w32 (3 * (H1 40 27))) + (H1 83 (H1 40 27)))) x3) = H5
            replace h := h H5 hH5.symm
            obtain ⟨o9, o10, h⟩ := h
            refine e3_K [0, 4, 0, 0, 2, 0, 0, 4, 0, 2, 2, 0, 0, 2, 2] 295 [(2, 40), (3, 0), (3, 0), (0, l3), (0, x3)] [] (e3_up H5 85 (e3_w32 ((e3_w32 (3 * (H5 40 27))) + (H5 83 (H5 40 27)))) (H5 40 5)) (G2) (wZ L xs) (M := tbM239) rfl rfl ⟨trivial, trivial, trivial, trivial, o9, trivial, o10, trivial⟩ ?_
            generalize hH8 : (e3_up H5 85 (e3_w32 ((e3_w32 (3 * (H5 40 27))) + (H5 83 (H5 40 27)))) (H5 40 5)) = H8
            replace h := h H8 hH8.symm
            refine e3_fgt [true, false, false, false, false] ?_
            exact sM_readAnswer_295 L xs Q (fun l3 H G => wM_readAnswer_202 Q nn l3 H G) ih _ _ h
          · replace h := h.2 hc
            refine e3_fgt [true, false, false, false, false] ?_
            exact sM_readAnswer_295 L xs Q (fun l3 H G => wM_readAnswer_202 Q nn l3 H G) ih _ _ h
        · replace h := h.2 hc
          refine e3_K [0, 0] 223 [(2, 40), (3, 0), (3, 0), (0, l3), (3, 0)] [(0, 2), (2, 40)] (H) (G) (wZ L xs) (M := tbM239) rfl rfl trivial ?_
          refine e3_call (o := 0) (k := 209) (M2 := tbM209) (f1 := 1) (w1 := 22) (as := [(2, 40), (0, 2)]) (rest := []) (M := tbM239) rfl rfl rfl trivial (Nat.le_of_ble_eq_true rfl) (Nat.le_of_ble_eq_true rfl) (Nat.le_of_ble_eq_true rfl) ?_
          refine e3_mono (sM_stop L xs _ _ _ _ h) (fun r H11 G12 h => ?_)
          obtain ⟨rfl, h⟩ := h
          change e3_Ev _ _ _ _ 226 [(2, 40), (3, 0), (3, 0), (0, l3), (3, 0)] [] H11 G12 _
          exact e3_retv (M := tbM239) rfl rfl rfl ⟨rfl, h⟩
      · replace h := h.2 hc
        refine e3_fgt [true, false, false, false, false] ?_
        exact sM_readAnswer_329 L xs Q _ _ h
set_option maxRecDepth 100000 in
set_option maxHeartbeats 4000000 in
theorem sM_readAnswer_185 (L : Nat) (xs : Nat → Int32) (Q : e3_H → e3_G → Prop)  (H : e3_H) (G : e3_G) (h : wM_readAnswer_185 Q  H G) : e3_Ev (wB L xs) 6 133 239 185 [(3, 0), (3, 0), (3, 0), (3, 0), (3, 0)] [] H G (e3_qv Q) := by
  unfold wM_readAnswer_185 at h
  exact e3_retv (M := tbM239) rfl rfl rfl ⟨rfl, h⟩
set_option maxRecDepth 100000 in
set_option maxHeartbeats 4000000 in
theorem sM_readAnswer_153 (L : Nat) (xs : Nat → Int32) (Q : e3_H → e3_G → Prop) (l2 : Int) (H : e3_H) (G : e3_G) (h : wM_readAnswer_153 Q l2 H G) : e3_Ev (wB L xs) 6 133 239 153 [(2, 40), (3, 0), (0, l2), (3, 0), (3, 0)] [] H G (e3_qv Q) := by
  unfold wM_readAnswer_153 at h
  refine e3_K [0, 0, 0] 156 [(2, 40), (3, 0), (0, l2), (3, 0), (3, 0)] [(0, l2), (0, 4), (2, 40)] (H) (G) (wZ L xs) (M := tbM239) rfl rfl trivial ?_
  refine e3_call (o := 0) (k := 210) (M2 := tbM210) (f1 := 0) (w1 := 0) (as := [(2, 40), (0, 4), (0, l2)]) (rest := []) (M := tbM239) rfl rfl rfl trivial (Nat.le_of_ble_eq_true rfl) (Nat.le_of_ble_eq_true rfl) (Nat.le_of_ble_eq_true rfl) ?_
  refine e3_mono (sM_fails L xs _ _ _ _ _ h) (fun r H1 G2 h => ?_)
  obtain ⟨rfl, h⟩ := h
  change e3_Ev _ _ _ _ 159 [(2, 40), (3, 0), (0, l2), (3, 0), (3, 0)] [] H1 G2 _
  refine e3_K [0] 185 [(2, 40), (3, 0), (0, l2), (3, 0), (3, 0)] [] (H1) (G2) (wZ L xs) (M := tbM239) rfl rfl trivial ?_
  refine e3_fgt [false, false, false, false, false] ?_
  exact sM_readAnswer_185 L xs Q _ _ h
set_option maxRecDepth 100000 in
set_option maxHeartbeats 4000000 in
theorem sM_readAnswer_64 (L : Nat) (xs : Nat → Int32) (Q : e3_H → e3_G → Prop)  (H : e3_H) (G : e3_G) (h : wM_readAnswer_64 Q  H G) : e3_Ev (wB L xs) 6 133 239 64 [(2, 40), (3, 0), (3, 0), (3, 0), (3, 0)] [] H G (e3_qv Q) := by
  unfold wM_readAnswer_64 at h
  refine e3_K [0, 4, 0, 2, 0] 73 [(2, 40), (3, 0), (3, 0), (3, 0), (3, 0)] [(2, 40), (0, (H 40 27)), (2, 80)] (H) (G) (wZ L xs) (M := tbM239) rfl rfl ⟨trivial, trivial, trivial⟩ ?_
  refine e3_call (o := 0) (k := 228) (M2 := tbM228) (f1 := 5) (w1 := 111) (as := [(2, 40)]) (rest := [(0, (H 40 27)), (2, 80)]) (M := tbM239) rfl rfl rfl trivial (Nat.le_of_ble_eq_true rfl) (Nat.le_of_ble_eq_true rfl) (Nat.le_of_ble_eq_true rfl) ?_
  refine e3_mono (sM_number L xs _ _ _ h) (fun r H1 G2 h => ?_)
  obtain ⟨x3, rfl, h⟩ := h
  change e3_Ev _ _ _ _ 76 [(2, 40), (3, 0), (3, 0), (3, 0), (3, 0)] [(0, x3), (0, (H 40 27)), (2, 80)] H1 G2 _
  obtain ⟨o5, h⟩ := h
  refine e3_K [2] 77 [(2, 40), (3, 0), (3, 0), (3, 0), (3, 0)] [] (e3_up H1 80 (H 40 27) x3) (G2) (wZ L xs) (M := tbM239) rfl rfl ⟨o5, trivial⟩ ?_
  generalize hH4 : (e3_up H1 80 (H 40 27) x3) = H4
  replace h := h H4 hH4.symm
  exact e3_retv (M := tbM239) rfl rfl rfl ⟨rfl, h⟩
set_option maxRecDepth 100000 in
set_option maxHeartbeats 4000000 in
theorem sM_readAnswer (L : Nat) (xs : Nat → Int32) (Q : e3_H → e3_G → Prop)  (H : e3_H) (G : e3_G) (h : wM_readAnswer Q  H G) : e3_Ev (wB L xs) 6 133 239 0 [(2, 40), (3, 0), (3, 0), (3, 0), (3, 0)] [] H G (e3_qv Q) := by
  unfold wM_readAnswer at h
  obtain ⟨o2, h⟩ := h
  refine e3_K [0, 4, 0, 2, 0, 2, 2] 13 [(2, 40), (3, 0), (3, 0), (3, 0), (3, 0)] [] (e3_up H 82 (H 40 27) (H 40 5)) (G) (wZ L xs) (M := tbM239) rfl rfl ⟨trivial, trivial, trivial, o2, trivial⟩ ?_
  generalize hH1 : (e3_up H 82 (H 40 27) (H 40 5)) = H1
  replace h := h H1 hH1.symm
  obtain ⟨o4, h⟩ := h
  refine e3_K [0, 4, 0, 2, 0, 2] 23 [(2, 40), (3, 0), (3, 0), (3, 0), (3, 0)] [] (e3_up H1 83 (H1 40 27) 0) (G) (wZ L xs) (M := tbM239) rfl rfl ⟨trivial, trivial, o4, trivial⟩ ?_
  generalize hH3 : (e3_up H1 83 (H1 40 27) 0) = H3
  replace h := h H3 hH3.symm
  refine e3_K [0, 2, 0] 28 [(2, 40), (3, 0), (3, 0), (3, 0), (3, 0)] [(0, 1), (0, (H3 40 3))] (H3) (G) (wZ L xs) (M := tbM239) rfl rfl ⟨trivial, trivial⟩ ?_
  refine e3_br (M := tbM239) rfl rfl rfl Iff.rfl (fun hc => ?_) (fun hc => ?_)
  · replace h := h.1 hc
    obtain ⟨o6, h⟩ := h
    refine e3_K [0, 4, 0, 2, 0, 2, 2] 91 [(2, 40), (3, 0), (3, 0), (3, 0), (3, 0)] [] (e3_up H3 81 (H3 40 27) (H3 40 4)) (G) (wZ L xs) (M := tbM239) rfl rfl ⟨trivial, trivial, trivial, o6, trivial⟩ ?_
    generalize hH5 : (e3_up H3 81 (H3 40 27) (H3 40 4)) = H5
    replace h := h H5 hH5.symm
    refine e3_K [0, 0, 2] 96 [(2, 40), (3, 0), (3, 0), (3, 0), (3, 0)] [(1, (H5 40 4)), (2, 40)] (H5) (G) (wZ L xs) (M := tbM239) rfl rfl ⟨trivial, trivial⟩ ?_
    refine e3_call (o := 0) (k := 225) (M2 := tbM225) (f1 := 0) (w1 := 0) (as := [(2, 40), (1, (H5 40 4))]) (rest := []) (M := tbM239) rfl rfl rfl trivial (Nat.le_of_ble_eq_true rfl) (Nat.le_of_ble_eq_true rfl) (Nat.le_of_ble_eq_true rfl) ?_
    refine e3_mono (sM_nameOf L xs _ _ _ _ h) (fun r H7 G8 h => ?_)
    obtain ⟨x9, rfl, h⟩ := h
    change e3_Ev _ _ _ _ 99 [(2, 40), (3, 0), (3, 0), (3, 0), (3, 0)] [(0, x9)] H7 G8 _
    refine e3_K [0, 0, 2, 0, 0] 106 [(2, 40), (0, x9), (0, (H7 40 5)), (3, 0), (3, 0)] [(2, 40)] (H7) (G8) (wZ L xs) (M := tbM239) rfl rfl ⟨trivial, trivial⟩ ?_
    refine e3_call (o := 0) (k := 201) (M2 := tbM201) (f1 := 3) (w1 := 67) (as := [(2, 40)]) (rest := []) (M := tbM239) rfl rfl rfl trivial (Nat.le_of_ble_eq_true rfl) (Nat.le_of_ble_eq_true rfl) (Nat.le_of_ble_eq_true rfl) ?_
    refine e3_mono (sM_next L xs _ _ _ h) (fun r H10 G11 h => ?_)
    obtain ⟨rfl, h⟩ := h
    change e3_Ev _ _ _ _ 109 [(2, 40), (0, x9), (0, (H7 40 5)), (3, 0), (3, 0)] [] H10 G11 _
    refine e3_K [0, 0] 112 [(2, 40), (0, x9), (0, (H7 40 5)), (3, 0), (3, 0)] [(0, 40), (2, 40)] (H10) (G11) (wZ L xs) (M := tbM239) rfl rfl trivial ?_
    refine e3_call (o := 0) (k := 215) (M2 := tbM215) (f1 := 0) (w1 := 0) (as := [(2, 40), (0, 40)]) (rest := []) (M := tbM239) rfl rfl rfl trivial (Nat.le_of_ble_eq_true rfl) (Nat.le_of_ble_eq_true rfl) (Nat.le_of_ble_eq_true rfl) ?_
    refine e3_mono (sM_isSign L xs _ _ _ _ h) (fun r H13 G14 h => ?_)
    obtain ⟨x15, rfl, h⟩ := h
    change e3_Ev _ _ _ _ 115 [(2, 40), (0, x9), (0, (H7 40 5)), (3, 0), (3, 0)] [(0, x15)] H13 G14 _
    refine e3_br (M := tbM239) rfl rfl rfl Iff.rfl (fun hc => ?_) (fun hc => ?_)
    · replace h := h.1 hc
      obtain ⟨o17, h⟩ := h
      refine e3_K [0, 4, 0, 2, 0, 2] 128 [(2, 40), (0, x9), (0, (H7 40 5)), (3, 0), (3, 0)] [] (e3_up H13 79 (H13 40 27) 1) (G14) (wZ L xs) (M := tbM239) rfl rfl ⟨trivial, trivial, o17, trivial⟩ ?_
      generalize hH16 : (e3_up H13 79 (H13 40 27) 1) = H16
      replace h := h H16 hH16.symm
      obtain ⟨o19, h⟩ := h
      refine e3_K [0, 4, 0, 2, 0, 2] 138 [(2, 40), (0, x9), (0, (H7 40 5)), (3, 0), (3, 0)] [] (e3_up H16 80 (H16 40 27) x9) (G14) (wZ L xs) (M := tbM239) rfl rfl ⟨trivial, trivial, o19, trivial⟩ ?_
      generalize hH18 : (e3_up H16 80 (H16 40 27) x9) = H18
      replace h := h H18 hH18.symm
      refine e3_K [0] 139 [(2, 40), (0, x9), (0, (H7 40 5)), (3, 0), (3, 0)] [(0, x9)] (H18) (G14) (wZ L xs) (M := tbM239) rfl rfl trivial ?_
      refine e3_br (M := tbM239) rfl rfl rfl Iff.rfl (fun hc => ?_) (fun hc => ?_)
      · replace h := h.1 hc
        refine e3_fgt [true, false, true, false, false] ?_
        exact sM_readAnswer_153 L xs Q _ _ _ h
      · replace h := h.2 hc
        refine e3_K [0, 2, 0, 0, 0, 0] 150 [(2, 40), (0, x9), (0, (H7 40 5)), (3, 0), (3, 0)] [(0, (e3_and (e3_shr (H18 40 31) x9) 1))] (H18) (G14) (wZ L xs) (M := tbM239) rfl rfl ⟨trivial, trivial⟩ ?_
        refine e3_br (M := tbM239) rfl rfl rfl Iff.rfl (fun hc => ?_) (fun hc => ?_)
        · replace h := h.1 hc
          refine e3_fgt [true, false, true, false, false] ?_
          exact sM_readAnswer_153 L xs Q _ _ _ h
        · replace h := h.2 hc
          obtain ⟨o20, h⟩ := h
          refine e3_K [0, 4, 0, 0, 2, 0, 0, 0, 2] 176 [(2, 40), (0, x9), (0, (H7 40 5)), (3, 0), (3, 0)] [(0, (H18 58 (e3_w32 ((e3_w32 (8 * (H18 40 27))) + x9))))] (H18) (G14) (wZ L xs) (M := tbM239) rfl rfl ⟨trivial, trivial, o20, trivial⟩ ?_
          refine e3_br (M := tbM239) rfl rfl rfl Iff.rfl (fun hc => ?_) (fun hc => ?_)
          · replace h := h.1 hc
            refine e3_fgt [false, false, false, false, false] ?_
            exact sM_readAnswer_185 L xs Q _ _ h
          · replace h := h.2 hc
            refine e3_K [0, 0, 0] 182 [(2, 40), (0, x9), (0, (H7 40 5)), (3, 0), (3, 0)] [(0, (H7 40 5)), (0, 5), (2, 40)] (H18) (G14) (wZ L xs) (M := tbM239) rfl rfl trivial ?_
            refine e3_call (o := 0) (k := 210) (M2 := tbM210) (f1 := 0) (w1 := 0) (as := [(2, 40), (0, 5), (0, (H7 40 5))]) (rest := []) (M := tbM239) rfl rfl rfl trivial (Nat.le_of_ble_eq_true rfl) (Nat.le_of_ble_eq_true rfl) (Nat.le_of_ble_eq_true rfl) ?_
            refine e3_mono (sM_fails L xs _ _ _ _ _ h) (fun r H21 G22 h => ?_)
            obtain ⟨rfl, h⟩ := h
            change e3_Ev _ _ _ _ 185 [(2, 40), (0, x9), (0, (H7 40 5)), (3, 0), (3, 0)] [] H21 G22 _
            refine e3_fgt [false, false, false, false, false] ?_
            exact sM_readAnswer_185 L xs Q _ _ h
    · replace h := h.2 hc
      obtain ⟨o25, h⟩ := h
      refine e3_K [0, 4, 0, 2, 0, 2] 196 [(2, 40), (0, x9), (0, (H7 40 5)), (3, 0), (3, 0)] [] (e3_up H13 79 (H13 40 27) 2) (G14) (wZ L xs) (M := tbM239) rfl rfl ⟨trivial, trivial, o25, trivial⟩ ?_
      generalize hH24 : (e3_up H13 79 (H13 40 27) 2) = H24
      replace h := h H24 hH24.symm
      refine e3_K [0] 197 [(2, 40), (0, x9), (0, (H7 40 5)), (3, 0), (3, 0)] [(2, 40)] (H24) (G14) (wZ L xs) (M := tbM239) rfl rfl trivial ?_
      refine e3_call (o := 0) (k := 201) (M2 := tbM201) (f1 := 3) (w1 := 67) (as := [(2, 40)]) (rest := []) (M := tbM239) rfl rfl rfl trivial (Nat.le_of_ble_eq_true rfl) (Nat.le_of_ble_eq_true rfl) (Nat.le_of_ble_eq_true rfl) ?_
      refine e3_mono (sM_next L xs _ _ _ h) (fun r H26 G27 h => ?_)
      obtain ⟨rfl, h⟩ := h
      change e3_Ev _ _ _ _ 200 [(2, 40), (0, x9), (0, (H7 40 5)), (3, 0), (3, 0)] [] H26 G27 _
      refine e3_K [0, 0] 202 [(2, 40), (0, x9), (0, (H7 40 5)), (0, 1), (3, 0)] [] (H26) (G27) (wZ L xs) (M := tbM239) rfl rfl trivial ?_
      refine e3_fgt [true, false, false, true, false] ?_
      obtain ⟨nl, h⟩ := h
      exact sM_readAnswer_202 L xs Q nl _ _ _ h
  · replace h := h.2 hc
    obtain ⟨o30, h⟩ := h
    refine e3_K [0, 4, 0, 2, 0, 2] 41 [(2, 40), (3, 0), (3, 0), (3, 0), (3, 0)] [] (e3_up H3 79 (H3 40 27) 0) (G) (wZ L xs) (M := tbM239) rfl rfl ⟨trivial, trivial, o30, trivial⟩ ?_
    generalize hH29 : (e3_up H3 79 (H3 40 27) 0) = H29
    replace h := h H29 hH29.symm
    refine e3_K [0, 2, 0] 46 [(2, 40), (3, 0), (3, 0), (3, 0), (3, 0)] [(0, 3), (0, (H29 40 3))] (H29) (G) (wZ L xs) (M := tbM239) rfl rfl ⟨trivial, trivial⟩ ?_
    refine e3_br (M := tbM239) rfl rfl rfl Iff.rfl (fun hc => ?_) (fun hc => ?_)
    · replace h := h.1 hc
      exact sM_readAnswer_64 L xs Q _ _ h
    · replace h := h.2 hc
      refine e3_K [0, 0] 52 [(2, 40), (3, 0), (3, 0), (3, 0), (3, 0)] [(0, 45), (2, 40)] (H29) (G) (wZ L xs) (M := tbM239) rfl rfl trivial ?_
      refine e3_call (o := 0) (k := 215) (M2 := tbM215) (f1 := 0) (w1 := 0) (as := [(2, 40), (0, 45)]) (rest := []) (M := tbM239) rfl rfl rfl trivial (Nat.le_of_ble_eq_true rfl) (Nat.le_of_ble_eq_true rfl) (Nat.le_of_ble_eq_true rfl) ?_
      refine e3_mono (sM_isSign L xs _ _ _ _ h) (fun r H31 G32 h => ?_)
      obtain ⟨x33, rfl, h⟩ := h
      change e3_Ev _ _ _ _ 55 [(2, 40), (3, 0), (3, 0), (3, 0), (3, 0)] [(0, x33)] H31 G32 _
      refine e3_br (M := tbM239) rfl rfl rfl Iff.rfl (fun hc => ?_) (fun hc => ?_)
      · replace h := h.1 hc
        refine e3_K [0, 0] 60 [(2, 40), (3, 0), (3, 0), (3, 0), (3, 0)] [(0, 2), (2, 40)] (H31) (G32) (wZ L xs) (M := tbM239) rfl rfl trivial ?_
        refine e3_call (o := 0) (k := 209) (M2 := tbM209) (f1 := 1) (w1 := 22) (as := [(2, 40), (0, 2)]) (rest := []) (M := tbM239) rfl rfl rfl trivial (Nat.le_of_ble_eq_true rfl) (Nat.le_of_ble_eq_true rfl) (Nat.le_of_ble_eq_true rfl) ?_
        refine e3_mono (sM_stop L xs _ _ _ _ h) (fun r H34 G35 h => ?_)
        obtain ⟨rfl, h⟩ := h
        change e3_Ev _ _ _ _ 63 [(2, 40), (3, 0), (3, 0), (3, 0), (3, 0)] [] H34 G35 _
        exact e3_retv (M := tbM239) rfl rfl rfl ⟨rfl, h⟩
      · replace h := h.2 hc
        exact sM_readAnswer_64 L xs Q _ _ h
/-- LetterPostModel.readRule(I)V -/
def wM_readRule_299 (Q : e3_H → e3_G → Prop) (l1 : Int) (H : e3_H) (G : e3_G) : Prop :=
  (wM_must (fun H1 G2 => ((0 : Int) ≤ l1 ∧ (l1 : Int) < 12) ∧ ((0 : Int) ≤ l1 ∧ (l1 : Int) < 12) ∧ ∀ H4 : e3_H, H4 = e3_up H1 70 l1 (e3_w32 ((H1 70 l1) + 1)) → Q H4 G2) 59 H G)
def wM_readRule_278 (Q : e3_H → e3_G → Prop) (l1 : Int) (H : e3_H) (G : e3_G) : Prop :=
  (wM_readGuard (fun H1 G2 => (wM_must (fun H4 G5 => ((((H4 40 7) : Int) = 0 → (wM_readAnswer (fun H7 G8 => (wM_readRule_299 Q l1 H7 G8)) H4 G5)) ∧ (¬ (((H4 40 7) : Int) = 0) → (wM_readRule_299 Q l1 H4 G5)))) 58 H1 G2)) H G)
def wM_readRule_252 (Q : e3_H → e3_G → Prop) (l1 : Int) (H : e3_H) (G : e3_G) : Prop :=
  ((((H 40 7) : Int) = 0 → (wM_isSign (fun x3 H1 G2 => (((x3 : Int) = 0 → (wM_readRule_278 Q l1 H1 G2)) ∧ (¬ ((x3 : Int) = 0) → (wM_fails (fun H4 G5 => (wM_readRule_278 Q l1 H4 G5)) 6 (H1 40 5) H1 G2)))) 44 H G)) ∧ (¬ (((H 40 7) : Int) = 0) → (wM_readRule_278 Q l1 H G)))
def wM_readRule_245 (Q : e3_H → e3_G → Prop) (k85 : Int → Int → Int → Int → e3_H → e3_G → Prop) (l1 : Int) (l2 : Int) (l3 : Int) (l4 : Int) (s0 : Int) (s1 : Int) (H : e3_H) (G : e3_G) : Prop :=
  ((0 : Int) ≤ s1 ∧ (s1 : Int) < 192) ∧ ∀ H1 : e3_H, H1 = e3_up H 74 s1 s0 → (k85 l1 l2 l3 (e3_w32 (l4 + 1)) H1 G)
def wM_readRule_199 (Q : e3_H → e3_G → Prop) (k85 : Int → Int → Int → Int → e3_H → e3_G → Prop) (l1 : Int) (l2 : Int) (l4 : Int) (l5 : Int) (H : e3_H) (G : e3_G) : Prop :=
  ((0 : Int) ≤ (H 40 27) ∧ ((H 40 27) : Int) < 192) ∧ ((0 : Int) ≤ l5 ∧ (l5 : Int) < 1700) ∧ (((1000 : Int) < (e3_w32 ((H 74 (H 40 27)) * (H 55 l5))) → (wM_readRule_245 Q k85 l1 l2 l5 l4 1000 (H 40 27) H G)) ∧ (¬ ((1000 : Int) < (e3_w32 ((H 74 (H 40 27)) * (H 55 l5)))) → (wM_readRule_245 Q k85 l1 l2 l5 l4 (e3_w32 ((H 74 (H 40 27)) * (H 55 l5))) (H 40 27) H G)))
def wM_readRule_159 (Q : e3_H → e3_G → Prop) (k85 : Int → Int → Int → Int → e3_H → e3_G → Prop) (l1 : Int) (l2 : Int) (l3 : Int) (l4 : Int) (s0 : Int) (s1 : Int) (H : e3_H) (G : e3_G) : Prop :=
  (wM_readPattern (fun x3 H1 G2 => ((((H1 40 7) : Int) = 0 → (((l4 : Int) = 0 → ((0 : Int) ≤ (H1 40 27) ∧ ((H1 40 27) : Int) < 192) ∧ ∀ H4 : e3_H, H4 = e3_up H1 72 (H1 40 27) x3 → (wM_readRule_199 Q k85 l1 l2 l4 x3 H4 G2)) ∧ (¬ ((l4 : Int) = 0) → ((0 : Int) ≤ l3 ∧ (l3 : Int) < 1700) ∧ ∀ H6 : e3_H, H6 = e3_up H1 52 l3 x3 → (wM_readRule_199 Q k85 l1 l2 l4 x3 H6 G2)))) ∧ (¬ (((H1 40 7) : Int) = 0) → Q H1 G2))) s1 s0 H G)
def wM_readRule_158 (Q : e3_H → e3_G → Prop) (k85 : Int → Int → Int → Int → e3_H → e3_G → Prop) (l1 : Int) (l2 : Int) (l3 : Int) (l4 : Int) (s0 : Int) (H : e3_H) (G : e3_G) : Prop :=
  (wM_readRule_159 Q k85 l1 l2 l3 l4 0 s0 H G)
def wM_readRule_133 (Q : e3_H → e3_G → Prop) (k85 : Int → Int → Int → Int → e3_H → e3_G → Prop) (l1 : Int) (l2 : Int) (l3 : Int) (l4 : Int) (H : e3_H) (G : e3_G) : Prop :=
  ((0 : Int) ≤ (e3_w32 ((e3_w32 (3 * l1)) + l4)) ∧ ((e3_w32 ((e3_w32 (3 * l1)) + l4)) : Int) < 36) ∧ (((l2 : Int) = 0 → (wM_readRule_158 Q k85 l1 l2 l3 l4 (H 69 (e3_w32 ((e3_w32 (3 * l1)) + l4))) H G)) ∧ (¬ ((l2 : Int) = 0) → (((l4 : Int) = 0 → (wM_readRule_159 Q k85 l1 l2 l3 l4 1 (H 69 (e3_w32 ((e3_w32 (3 * l1)) + l4))) H G)) ∧ (¬ ((l4 : Int) = 0) → (wM_readRule_158 Q k85 l1 l2 l3 l4 (H 69 (e3_w32 ((e3_w32 (3 * l1)) + l4))) H G)))))
def wM_readRule_123 (Q : e3_H → e3_G → Prop) (k85 : Int → Int → Int → Int → e3_H → e3_G → Prop) (l1 : Int) (l2 : Int) (l3 : Int) (l4 : Int) (H : e3_H) (G : e3_G) : Prop :=
  (wM_takes (fun x3 H1 G2 => (((x3 : Int) = 0 → Q H1 G2) ∧ (¬ ((x3 : Int) = 0) → (wM_readRule_133 Q k85 l1 l2 l3 l4 H1 G2)))) 44 H G)
def wM_readRule_85 (Q : e3_H → e3_G → Prop) : Nat → Int → Int → Int → Int → e3_H → e3_G → Prop
  | 0, _, _, _, _, _, _ => False
  | nn + 1, l1, l2, l3, l4, H, G => ((0 : Int) ≤ l1 ∧ (l1 : Int) < 12) ∧ (((l4 : Int) < (H 68 l1) → ((((H 40 7) : Int) = 0 → (((0 : Int) < l4 → (wM_isSign (fun x4 H2 G3 => (((x4 : Int) = 0 → (wM_stop (fun H5 G6 => (wM_readRule_123 Q (fun l1 l2 l3 l4 H G => wM_readRule_85 Q nn l1 l2 l3 l4 H G) l1 l2 l3 l4 H5 G6)) 6 H2 G3)) ∧ (¬ ((x4 : Int) = 0) → (wM_readRule_123 Q (fun l1 l2 l3 l4 H G => wM_readRule_85 Q nn l1 l2 l3 l4 H G) l1 l2 l3 l4 H2 G3)))) 44 H G)) ∧ (¬ ((0 : Int) < l4) → (wM_readRule_133 Q (fun l1 l2 l3 l4 H G => wM_readRule_85 Q nn l1 l2 l3 l4 H G) l1 l2 l3 l4 H G)))) ∧ (¬ (((H 40 7) : Int) = 0) → (wM_readRule_252 Q l1 H G)))) ∧ (¬ ((l4 : Int) < (H 68 l1)) → (wM_readRule_252 Q l1 H G)))
def wM_readRule_37 (Q : e3_H → e3_G → Prop) (l1 : Int) (l2 : Int) (s0 : Int) (s1 : Int) (H : e3_H) (G : e3_G) : Prop :=
  ∀ H1 : e3_H, H1 = e3_up H 40 27 (e3_w32 (s1 + s0)) → ((0 : Int) ≤ (H1 40 27) ∧ ((H1 40 27) : Int) < 192) ∧ ∀ H2 : e3_H, H2 = e3_up H1 73 (H1 40 27) (H1 40 5) → ((0 : Int) ≤ (H2 40 27) ∧ ((H2 40 27) : Int) < 192) ∧ ∀ H4 : e3_H, H4 = e3_up H2 56 (H2 40 27) 0 → ∀ H6 : e3_H, H6 = e3_up H4 40 31 0 → ((0 : Int) ≤ (H6 40 27) ∧ ((H6 40 27) : Int) < 192) ∧ ∀ H7 : e3_H, H7 = e3_up H6 74 (H6 40 27) 1 → (∃ n, wM_readRule_85 Q n l1 l2 (-4) 0 H7 G)
def wM_readRule_16 (Q : e3_H → e3_G → Prop) (l1 : Int) (s0 : Int) (H : e3_H) (G : e3_G) : Prop :=
  (((s0 : Int) = 0 → ((0 : Int) ≤ l1 ∧ (l1 : Int) < 12) ∧ (wM_readRule_37 Q l1 s0 (H 70 l1) (e3_w32 (16 * l1)) H G)) ∧ (¬ ((s0 : Int) = 0) → (wM_readRule_37 Q l1 s0 15 (e3_w32 (16 * l1)) H G)))
def wM_readRule (Q : e3_H → e3_G → Prop) (l1 : Int) (H : e3_H) (G : e3_G) : Prop :=
  ((0 : Int) ≤ l1 ∧ (l1 : Int) < 12) ∧ ((((H 70 l1) : Int) = 16 → (wM_readRule_16 Q l1 1 H G)) ∧ (¬ (((H 70 l1) : Int) = 16) → (wM_readRule_16 Q l1 0 H G)))
set_option maxRecDepth 100000 in
set_option maxHeartbeats 4000000 in
theorem sM_readRule_299 (L : Nat) (xs : Nat → Int32) (Q : e3_H → e3_G → Prop) (l1 : Int) (H : e3_H) (G : e3_G) (h : wM_readRule_299 Q l1 H G) : e3_Ev (wB L xs) 9 210 220 299 [(2, 40), (0, l1), (3, 0), (3, 0), (3, 0), (3, 0), (3, 0)] [] H G (e3_qv Q) := by
  unfold wM_readRule_299 at h
  refine e3_K [0, 0] 302 [(2, 40), (0, l1), (3, 0), (3, 0), (3, 0), (3, 0), (3, 0)] [(0, 59), (2, 40)] (H) (G) (wZ L xs) (M := tbM220) rfl rfl trivial ?_
  refine e3_call (o := 0) (k := 217) (M2 := tbM217) (f1 := 5) (w1 := 111) (as := [(2, 40), (0, 59)]) (rest := []) (M := tbM220) rfl rfl rfl trivial (Nat.le_of_ble_eq_true rfl) (Nat.le_of_ble_eq_true rfl) (Nat.le_of_ble_eq_true rfl) ?_
  refine e3_mono (sM_must L xs _ _ _ _ h) (fun r H1 G2 h => ?_)
  obtain ⟨rfl, h⟩ := h
  change e3_Ev _ _ _ _ 305 [(2, 40), (0, l1), (3, 0), (3, 0), (3, 0), (3, 0), (3, 0)] [] H1 G2 _
  obtain ⟨o5, o6, h⟩ := h
  refine e3_K [0, 4, 0, 0, 2, 0, 0, 2] 315 [(2, 40), (0, l1), (3, 0), (3, 0), (3, 0), (3, 0), (3, 0)] [] (e3_up H1 70 l1 (e3_w32 ((H1 70 l1) + 1))) (G2) (wZ L xs) (M := tbM220) rfl rfl ⟨trivial, o5, o6, trivial⟩ ?_
  generalize hH4 : (e3_up H1 70 l1 (e3_w32 ((H1 70 l1) + 1))) = H4
  replace h := h H4 hH4.symm
  exact e3_retv (M := tbM220) rfl rfl rfl ⟨rfl, h⟩
set_option maxRecDepth 100000 in
set_option maxHeartbeats 4000000 in
theorem sM_readRule_278 (L : Nat) (xs : Nat → Int32) (Q : e3_H → e3_G → Prop) (l1 : Int) (H : e3_H) (G : e3_G) (h : wM_readRule_278 Q l1 H G) : e3_Ev (wB L xs) 9 210 220 278 [(2, 40), (0, l1), (3, 0), (3, 0), (3, 0), (3, 0), (3, 0)] [] H G (e3_qv Q) := by
  unfold wM_readRule_278 at h
  refine e3_K [0] 279 [(2, 40), (0, l1), (3, 0), (3, 0), (3, 0), (3, 0), (3, 0)] [(2, 40)] (H) (G) (wZ L xs) (M := tbM220) rfl rfl trivial ?_
  refine e3_call (o := 0) (k := 235) (M2 := tbM235) (f1 := 8) (w1 := 176) (as := [(2, 40)]) (rest := []) (M := tbM220) rfl rfl rfl trivial (Nat.le_of_ble_eq_true rfl) (Nat.le_of_ble_eq_true rfl) (Nat.le_of_ble_eq_true rfl) ?_
  refine e3_mono (sM_readGuard L xs _ _ _ h) (fun r H1 G2 h => ?_)
  obtain ⟨rfl, h⟩ := h
  change e3_Ev _ _ _ _ 282 [(2, 40), (0, l1), (3, 0), (3, 0), (3, 0), (3, 0), (3, 0)] [] H1 G2 _
  refine e3_K [0, 0] 285 [(2, 40), (0, l1), (3, 0), (3, 0), (3, 0), (3, 0), (3, 0)] [(0, 58), (2, 40)] (H1) (G2) (wZ L xs) (M := tbM220) rfl rfl trivial ?_
  refine e3_call (o := 0) (k := 217) (M2 := tbM217) (f1 := 5) (w1 := 111) (as := [(2, 40), (0, 58)]) (rest := []) (M := tbM220) rfl rfl rfl trivial (Nat.le_of_ble_eq_true rfl) (Nat.le_of_ble_eq_true rfl) (Nat.le_of_ble_eq_true rfl) ?_
  refine e3_mono (sM_must L xs _ _ _ _ h) (fun r H4 G5 h => ?_)
  obtain ⟨rfl, h⟩ := h
  change e3_Ev _ _ _ _ 288 [(2, 40), (0, l1), (3, 0), (3, 0), (3, 0), (3, 0), (3, 0)] [] H4 G5 _
  refine e3_K [0, 2] 292 [(2, 40), (0, l1), (3, 0), (3, 0), (3, 0), (3, 0), (3, 0)] [(0, (H4 40 7))] (H4) (G5) (wZ L xs) (M := tbM220) rfl rfl ⟨trivial, trivial⟩ ?_
  refine e3_br (M := tbM220) rfl rfl rfl Iff.rfl (fun hc => ?_) (fun hc => ?_)
  · replace h := h.1 hc
    refine e3_K [0] 296 [(2, 40), (0, l1), (3, 0), (3, 0), (3, 0), (3, 0), (3, 0)] [(2, 40)] (H4) (G5) (wZ L xs) (M := tbM220) rfl rfl trivial ?_
    refine e3_call (o := 0) (k := 239) (M2 := tbM239) (f1 := 6) (w1 := 133) (as := [(2, 40)]) (rest := []) (M := tbM220) rfl rfl rfl trivial (Nat.le_of_ble_eq_true rfl) (Nat.le_of_ble_eq_true rfl) (Nat.le_of_ble_eq_true rfl) ?_
    refine e3_mono (sM_readAnswer L xs _ _ _ h) (fun r H7 G8 h => ?_)
    obtain ⟨rfl, h⟩ := h
    change e3_Ev _ _ _ _ 299 [(2, 40), (0, l1), (3, 0), (3, 0), (3, 0), (3, 0), (3, 0)] [] H7 G8 _
    exact sM_readRule_299 L xs Q _ _ _ h
  · replace h := h.2 hc
    exact sM_readRule_299 L xs Q _ _ _ h
set_option maxRecDepth 100000 in
set_option maxHeartbeats 4000000 in
theorem sM_readRule_252 (L : Nat) (xs : Nat → Int32) (Q : e3_H → e3_G → Prop) (l1 : Int) (H : e3_H) (G : e3_G) (h : wM_readRule_252 Q l1 H G) : e3_Ev (wB L xs) 9 210 220 252 [(2, 40), (0, l1), (3, 0), (3, 0), (3, 0), (3, 0), (3, 0)] [] H G (e3_qv Q) := by
  unfold wM_readRule_252 at h
  refine e3_K [0, 2] 256 [(2, 40), (0, l1), (3, 0), (3, 0), (3, 0), (3, 0), (3, 0)] [(0, (H 40 7))] (H) (G) (wZ L xs) (M := tbM220) rfl rfl ⟨trivial, trivial⟩ ?_
  refine e3_br (M := tbM220) rfl rfl rfl Iff.rfl (fun hc => ?_) (fun hc => ?_)
  · replace h := h.1 hc
    refine e3_K [0, 0] 262 [(2, 40), (0, l1), (3, 0), (3, 0), (3, 0), (3, 0), (3, 0)] [(0, 44), (2, 40)] (H) (G) (wZ L xs) (M := tbM220) rfl rfl trivial ?_
    refine e3_call (o := 0) (k := 215) (M2 := tbM215) (f1 := 0) (w1 := 0) (as := [(2, 40), (0, 44)]) (rest := []) (M := tbM220) rfl rfl rfl trivial (Nat.le_of_ble_eq_true rfl) (Nat.le_of_ble_eq_true rfl) (Nat.le_of_ble_eq_true rfl) ?_
    refine e3_mono (sM_isSign L xs _ _ _ _ h) (fun r H1 G2 h => ?_)
    obtain ⟨x3, rfl, h⟩ := h
    change e3_Ev _ _ _ _ 265 [(2, 40), (0, l1), (3, 0), (3, 0), (3, 0), (3, 0), (3, 0)] [(0, x3)] H1 G2 _
    refine e3_br (M := tbM220) rfl rfl rfl Iff.rfl (fun hc => ?_) (fun hc => ?_)
    · replace h := h.1 hc
      exact sM_readRule_278 L xs Q _ _ _ h
    · replace h := h.2 hc
      refine e3_K [0, 0, 0, 2] 275 [(2, 40), (0, l1), (3, 0), (3, 0), (3, 0), (3, 0), (3, 0)] [(0, (H1 40 5)), (0, 6), (2, 40)] (H1) (G2) (wZ L xs) (M := tbM220) rfl rfl ⟨trivial, trivial⟩ ?_
      refine e3_call (o := 0) (k := 210) (M2 := tbM210) (f1 := 0) (w1 := 0) (as := [(2, 40), (0, 6), (0, (H1 40 5))]) (rest := []) (M := tbM220) rfl rfl rfl trivial (Nat.le_of_ble_eq_true rfl) (Nat.le_of_ble_eq_true rfl) (Nat.le_of_ble_eq_true rfl) ?_
      refine e3_mono (sM_fails L xs _ _ _ _ _ h) (fun r H4 G5 h => ?_)
      obtain ⟨rfl, h⟩ := h
      change e3_Ev _ _ _ _ 278 [(2, 40), (0, l1), (3, 0), (3, 0), (3, 0), (3, 0), (3, 0)] [] H4 G5 _
      exact sM_readRule_278 L xs Q _ _ _ h
  · replace h := h.2 hc
    exact sM_readRule_278 L xs Q _ _ _ h
set_option maxRecDepth 100000 in
set_option maxHeartbeats 4000000 in
theorem sM_readRule_245 (L : Nat) (xs : Nat → Int32) (Q : e3_H → e3_G → Prop) (k85 : Int → Int → Int → Int → e3_H → e3_G → Prop) (hk85 : ∀ (l1 : Int) (l2 : Int) (l3 : Int) (l4 : Int) (H : e3_H) (G : e3_G), k85 l1 l2 l3 l4 H G → e3_Ev (wB L xs) 9 210 220 85 [(2, 40), (0, l1), (0, l2), (0, l3), (0, l4), (3, 0), (3, 0)] [] H G (e3_qv Q)) (l1 : Int) (l2 : Int) (l3 : Int) (l4 : Int) (s0 : Int) (s1 : Int) (H : e3_H) (G : e3_G) (h : wM_readRule_245 Q k85 l1 l2 l3 l4 s0 s1 H G) : e3_Ev (wB L xs) 9 210 220 245 [(2, 40), (0, l1), (0, l2), (0, l3), (0, l4), (3, 0), (3, 0)] [(0, s0), (0, s1), (2, 74)] H G (e3_qv Q) := by
  unfold wM_readRule_245 at h
  obtain ⟨o2, h⟩ := h
  refine e3_K [2] 246 [(2, 40), (0, l1), (0, l2), (0, l3), (0, l4), (3, 0), (3, 0)] [] (e3_up H 74 s1 s0) (G) (wZ L xs) (M := tbM220) rfl rfl ⟨o2, trivial⟩ ?_
  generalize hH1 : (e3_up H 74 s1 s0) = H1
  replace h := h H1 hH1.symm
  refine e3_K [0, 0] 85 [(2, 40), (0, l1), (0, l2), (0, l3), (0, (e3_w32 (l4 + 1))), (3, 0), (3, 0)] [] (H1) (G) (wZ L xs) (M := tbM220) rfl rfl trivial ?_
  exact hk85 _ _ _ _ _ _ h
set_option maxRecDepth 100000 in
set_option maxHeartbeats 4000000 in
theorem sM_readRule_199 (L : Nat) (xs : Nat → Int32) (Q : e3_H → e3_G → Prop) (k85 : Int → Int → Int → Int → e3_H → e3_G → Prop) (hk85 : ∀ (l1 : Int) (l2 : Int) (l3 : Int) (l4 : Int) (H : e3_H) (G : e3_G), k85 l1 l2 l3 l4 H G → e3_Ev (wB L xs) 9 210 220 85 [(2, 40), (0, l1), (0, l2), (0, l3), (0, l4), (3, 0), (3, 0)] [] H G (e3_qv Q)) (l1 : Int) (l2 : Int) (l4 : Int) (l5 : Int) (H : e3_H) (G : e3_G) (h : wM_readRule_199 Q k85 l1 l2 l4 l5 H G) : e3_Ev (wB L xs) 9 210 220 199 [(2, 40), (0, l1), (0, l2), (3, 0), (0, l4), (0, l5), (3, 0)] [] H G (e3_qv Q) := by
  unfold wM_readRule_199 at h
  obtain ⟨o1, o2, h⟩ := h
  refine e3_K [0, 0, 0, 4, 0, 2, 2, 0, 4, 0, 2, 0, 0, 0, 4, 0, 2, 0, 0] 234 [(2, 40), (0, l1), (0, l2), (0, l5), (0, l4), (0, l5), (0, (e3_w32 ((H 74 (H 40 27)) * (H 55 l5))))] [(0, 1000), (0, (e3_w32 ((H 74 (H 40 27)) * (H 55 l5)))), (0, (H 40 27)), (2, 74)] (H) (G) (wZ L xs) (M := tbM220) rfl rfl ⟨trivial, trivial, o1, trivial, o2, trivial, trivial, trivial⟩ ?_
  refine e3_br (M := tbM220) rfl rfl rfl Iff.rfl (fun hc => ?_) (fun hc => ?_)
  · replace h := h.1 hc
    refine e3_K [0, 0] 245 [(2, 40), (0, l1), (0, l2), (0, l5), (0, l4), (0, l5), (0, (e3_w32 ((H 74 (H 40 27)) * (H 55 l5))))] [(0, 1000), (0, (H 40 27)), (2, 74)] (H) (G) (wZ L xs) (M := tbM220) rfl rfl trivial ?_
    refine e3_fgt [true, true, true, true, true, false, false] ?_
    exact sM_readRule_245 L xs Q k85 hk85 _ _ _ _ _ _ _ _ h
  · replace h := h.2 hc
    refine e3_K [0] 245 [(2, 40), (0, l1), (0, l2), (0, l5), (0, l4), (0, l5), (0, (e3_w32 ((H 74 (H 40 27)) * (H 55 l5))))] [(0, (e3_w32 ((H 74 (H 40 27)) * (H 55 l5)))), (0, (H 40 27)), (2, 74)] (H) (G) (wZ L xs) (M := tbM220) rfl rfl trivial ?_
    refine e3_fgt [true, true, true, true, true, false, false] ?_
    exact sM_readRule_245 L xs Q k85 hk85 _ _ _ _ _ _ _ _ h
set_option maxRecDepth 100000 in
set_option maxHeartbeats 4000000 in
theorem sM_readRule_159 (L : Nat) (xs : Nat → Int32) (Q : e3_H → e3_G → Prop) (k85 : Int → Int → Int → Int → e3_H → e3_G → Prop) (hk85 : ∀ (l1 : Int) (l2 : Int) (l3 : Int) (l4 : Int) (H : e3_H) (G : e3_G), k85 l1 l2 l3 l4 H G → e3_Ev (wB L xs) 9 210 220 85 [(2, 40), (0, l1), (0, l2), (0, l3), (0, l4), (3, 0), (3, 0)] [] H G (e3_qv Q)) (l1 : Int) (l2 : Int) (l3 : Int) (l4 : Int) (s0 : Int) (s1 : Int) (H : e3_H) (G : e3_G) (h : wM_readRule_159 Q k85 l1 l2 l3 l4 s0 s1 H G) : e3_Ev (wB L xs) 9 210 220 159 [(2, 40), (0, l1), (0, l2), (0, l3), (0, l4), (3, 0), (3, 0)] [(0, s0), (0, s1), (2, 40)] H G (e3_qv Q) := by
  unfold wM_readRule_159 at h
  refine e3_call (o := 0) (k := 221) (M2 := tbM221) (f1 := 8) (w1 := 185) (as := [(2, 40), (0, s1), (0, s0)]) (rest := []) (M := tbM220) rfl rfl rfl trivial (Nat.le_of_ble_eq_true rfl) (Nat.le_of_ble_eq_true rfl) (Nat.le_of_ble_eq_true rfl) ?_
  refine e3_mono (sM_readPattern L xs _ _ _ _ _ h) (fun r H1 G2 h => ?_)
  obtain ⟨x3, rfl, h⟩ := h
  change e3_Ev _ _ _ _ 162 [(2, 40), (0, l1), (0, l2), (0, l3), (0, l4), (3, 0), (3, 0)] [(0, x3)] H1 G2 _
  refine e3_K [0, 0, 2] 168 [(2, 40), (0, l1), (0, l2), (0, l3), (0, l4), (0, x3), (3, 0)] [(0, (H1 40 7))] (H1) (G2) (wZ L xs) (M := tbM220) rfl rfl ⟨trivial, trivial⟩ ?_
  refine e3_br (M := tbM220) rfl rfl rfl Iff.rfl (fun hc => ?_) (fun hc => ?_)
  · replace h := h.1 hc
    refine e3_K [0] 174 [(2, 40), (0, l1), (0, l2), (0, l3), (0, l4), (0, x3), (3, 0)] [(0, l4)] (H1) (G2) (wZ L xs) (M := tbM220) rfl rfl trivial ?_
    refine e3_br (M := tbM220) rfl rfl rfl Iff.rfl (fun hc => ?_) (fun hc => ?_)
    · replace h := h.1 hc
      obtain ⟨o5, h⟩ := h
      refine e3_K [0, 4, 0, 2, 0, 2] 188 [(2, 40), (0, l1), (0, l2), (0, l3), (0, l4), (0, x3), (3, 0)] [] (e3_up H1 72 (H1 40 27) x3) (G2) (wZ L xs) (M := tbM220) rfl rfl ⟨trivial, trivial, o5, trivial⟩ ?_
      generalize hH4 : (e3_up H1 72 (H1 40 27) x3) = H4
      replace h := h H4 hH4.symm
      refine e3_K [0] 199 [(2, 40), (0, l1), (0, l2), (0, l3), (0, l4), (0, x3), (3, 0)] [] (H4) (G2) (wZ L xs) (M := tbM220) rfl rfl trivial ?_
      refine e3_fgt [true, true, true, false, true, true, false] ?_
      exact sM_readRule_199 L xs Q k85 hk85 _ _ _ _ _ _ h
    · replace h := h.2 hc
      obtain ⟨o7, h⟩ := h
      refine e3_K [0, 4, 0, 0, 2] 199 [(2, 40), (0, l1), (0, l2), (0, l3), (0, l4), (0, x3), (3, 0)] [] (e3_up H1 52 l3 x3) (G2) (wZ L xs) (M := tbM220) rfl rfl ⟨trivial, o7, trivial⟩ ?_
      generalize hH6 : (e3_up H1 52 l3 x3) = H6
      replace h := h H6 hH6.symm
      refine e3_fgt [true, true, true, false, true, true, false] ?_
      exact sM_readRule_199 L xs Q k85 hk85 _ _ _ _ _ _ h
  · replace h := h.2 hc
    exact e3_retv (M := tbM220) rfl rfl rfl ⟨rfl, h⟩
set_option maxRecDepth 100000 in
set_option maxHeartbeats 4000000 in
theorem sM_readRule_158 (L : Nat) (xs : Nat → Int32) (Q : e3_H → e3_G → Prop) (k85 : Int → Int → Int → Int → e3_H → e3_G → Prop) (hk85 : ∀ (l1 : Int) (l2 : Int) (l3 : Int) (l4 : Int) (H : e3_H) (G : e3_G), k85 l1 l2 l3 l4 H G → e3_Ev (wB L xs) 9 210 220 85 [(2, 40), (0, l1), (0, l2), (0, l3), (0, l4), (3, 0), (3, 0)] [] H G (e3_qv Q)) (l1 : Int) (l2 : Int) (l3 : Int) (l4 : Int) (s0 : Int) (H : e3_H) (G : e3_G) (h : wM_readRule_158 Q k85 l1 l2 l3 l4 s0 H G) : e3_Ev (wB L xs) 9 210 220 158 [(2, 40), (0, l1), (0, l2), (0, l3), (0, l4), (3, 0), (3, 0)] [(0, s0), (2, 40)] H G (e3_qv Q) := by
  unfold wM_readRule_158 at h
  refine e3_K [0] 159 [(2, 40), (0, l1), (0, l2), (0, l3), (0, l4), (3, 0), (3, 0)] [(0, 0), (0, s0), (2, 40)] (H) (G) (wZ L xs) (M := tbM220) rfl rfl trivial ?_
  exact sM_readRule_159 L xs Q k85 hk85 _ _ _ _ _ _ _ _ h
set_option maxRecDepth 100000 in
set_option maxHeartbeats 4000000 in
theorem sM_readRule_133 (L : Nat) (xs : Nat → Int32) (Q : e3_H → e3_G → Prop) (k85 : Int → Int → Int → Int → e3_H → e3_G → Prop) (hk85 : ∀ (l1 : Int) (l2 : Int) (l3 : Int) (l4 : Int) (H : e3_H) (G : e3_G), k85 l1 l2 l3 l4 H G → e3_Ev (wB L xs) 9 210 220 85 [(2, 40), (0, l1), (0, l2), (0, l3), (0, l4), (3, 0), (3, 0)] [] H G (e3_qv Q)) (l1 : Int) (l2 : Int) (l3 : Int) (l4 : Int) (H : e3_H) (G : e3_G) (h : wM_readRule_133 Q k85 l1 l2 l3 l4 H G) : e3_Ev (wB L xs) 9 210 220 133 [(2, 40), (0, l1), (0, l2), (0, l3), (0, l4), (3, 0), (3, 0)] [] H G (e3_qv Q) := by
  unfold wM_readRule_133 at h
  obtain ⟨o1, h⟩ := h
  refine e3_K [0, 0, 4, 0, 0, 0, 0, 0, 2, 0] 146 [(2, 40), (0, l1), (0, l2), (0, l3), (0, l4), (3, 0), (3, 0)] [(0, l2), (0, (H 69 (e3_w32 ((e3_w32 (3 * l1)) + l4)))), (2, 40)] (H) (G) (wZ L xs) (M := tbM220) rfl rfl ⟨trivial, o1, trivial⟩ ?_
  refine e3_br (M := tbM220) rfl rfl rfl Iff.rfl (fun hc => ?_) (fun hc => ?_)
  · replace h := h.1 hc
    exact sM_readRule_158 L xs Q k85 hk85 _ _ _ _ _ _ _ h
  · replace h := h.2 hc
    refine e3_K [0] 151 [(2, 40), (0, l1), (0, l2), (0, l3), (0, l4), (3, 0), (3, 0)] [(0, l4), (0, (H 69 (e3_w32 ((e3_w32 (3 * l1)) + l4)))), (2, 40)] (H) (G) (wZ L xs) (M := tbM220) rfl rfl trivial ?_
    refine e3_br (M := tbM220) rfl rfl rfl Iff.rfl (fun hc => ?_) (fun hc => ?_)
    · replace h := h.1 hc
      refine e3_K [0, 0] 159 [(2, 40), (0, l1), (0, l2), (0, l3), (0, l4), (3, 0), (3, 0)] [(0, 1), (0, (H 69 (e3_w32 ((e3_w32 (3 * l1)) + l4)))), (2, 40)] (H) (G) (wZ L xs) (M := tbM220) rfl rfl trivial ?_
      exact sM_readRule_159 L xs Q k85 hk85 _ _ _ _ _ _ _ _ h
    · replace h := h.2 hc
      exact sM_readRule_158 L xs Q k85 hk85 _ _ _ _ _ _ _ h
set_option maxRecDepth 100000 in
set_option maxHeartbeats 4000000 in
theorem sM_readRule_123 (L : Nat) (xs : Nat → Int32) (Q : e3_H → e3_G → Prop) (k85 : Int → Int → Int → Int → e3_H → e3_G → Prop) (hk85 : ∀ (l1 : Int) (l2 : Int) (l3 : Int) (l4 : Int) (H : e3_H) (G : e3_G), k85 l1 l2 l3 l4 H G → e3_Ev (wB L xs) 9 210 220 85 [(2, 40), (0, l1), (0, l2), (0, l3), (0, l4), (3, 0), (3, 0)] [] H G (e3_qv Q)) (l1 : Int) (l2 : Int) (l3 : Int) (l4 : Int) (H : e3_H) (G : e3_G) (h : wM_readRule_123 Q k85 l1 l2 l3 l4 H G) : e3_Ev (wB L xs) 9 210 220 123 [(2, 40), (0, l1), (0, l2), (0, l3), (0, l4), (3, 0), (3, 0)] [] H G (e3_qv Q) := by
  unfold wM_readRule_123 at h
  refine e3_K [0, 0] 126 [(2, 40), (0, l1), (0, l2), (0, l3), (0, l4), (3, 0), (3, 0)] [(0, 44), (2, 40)] (H) (G) (wZ L xs) (M := tbM220) rfl rfl trivial ?_
  refine e3_call (o := 0) (k := 214) (M2 := tbM214) (f1 := 4) (w1 := 89) (as := [(2, 40), (0, 44)]) (rest := []) (M := tbM220) rfl rfl rfl trivial (Nat.le_of_ble_eq_true rfl) (Nat.le_of_ble_eq_true rfl) (Nat.le_of_ble_eq_true rfl) ?_
  refine e3_mono (sM_takes L xs _ _ _ _ h) (fun r H1 G2 h => ?_)
  obtain ⟨x3, rfl, h⟩ := h
  change e3_Ev _ _ _ _ 129 [(2, 40), (0, l1), (0, l2), (0, l3), (0, l4), (3, 0), (3, 0)] [(0, x3)] H1 G2 _
  refine e3_br (M := tbM220) rfl rfl rfl Iff.rfl (fun hc => ?_) (fun hc => ?_)
  · replace h := h.1 hc
    exact e3_retv (M := tbM220) rfl rfl rfl ⟨rfl, h⟩
  · replace h := h.2 hc
    exact sM_readRule_133 L xs Q k85 hk85 _ _ _ _ _ _ h
set_option maxRecDepth 100000 in
set_option maxHeartbeats 4000000 in
theorem sM_readRule_85 (L : Nat) (xs : Nat → Int32) (Q : e3_H → e3_G → Prop) : ∀ (nl : Nat) (l1 : Int) (l2 : Int) (l3 : Int) (l4 : Int) (H : e3_H) (G : e3_G), wM_readRule_85 Q nl l1 l2 l3 l4 H G → e3_Ev (wB L xs) 9 210 220 85 [(2, 40), (0, l1), (0, l2), (0, l3), (0, l4), (3, 0), (3, 0)] [] H G (e3_qv Q) := by
  intro nl
  induction nl with
  | zero => intro l1 l2 l3 l4 H G h; exact h.elim
  | succ nn ih =>
    intro l1 l2 l3 l4 H G h
    have h : ((0 : Int) ≤ l1 ∧ (l1 : Int) < 12) ∧ (((l4 : Int) < (H 68 l1) → ((((H 40 7) : Int) = 0 → (((0 : Int) < l4 → (wM_isSign (fun x4 H2 G3 => (((x4 : Int) = 0 → (wM_stop (fun H5 G6 => (wM_readRule_123 Q (fun l1 l2 l3 l4 H G => wM_readRule_85 Q nn l1 l2 l3 l4 H G) l1 l2 l3 l4 H5 G6)) 6 H2 G3)) ∧ (¬ ((x4 : Int) = 0) → (wM_readRule_123 Q (fun l1 l2 l3 l4 H G => wM_readRule_85 Q nn l1 l2 l3 l4 H G) l1 l2 l3 l4 H2 G3)))) 44 H G)) ∧ (¬ ((0 : Int) < l4) → (wM_readRule_133 Q (fun l1 l2 l3 l4 H G => wM_readRule_85 Q nn l1 l2 l3 l4 H G) l1 l2 l3 l4 H G)))) ∧ (¬ (((H 40 7) : Int) = 0) → (wM_readRule_252 Q l1 H G)))) ∧ (¬ ((l4 : Int) < (H 68 l1)) → (wM_readRule_252 Q l1 H G))) := h
    obtain ⟨o1, h⟩ := h
    refine e3_K [0, 0, 4, 0, 2] 93 [(2, 40), (0, l1), (0, l2), (0, l3), (0, l4), (3, 0), (3, 0)] [(0, (H 68 l1)), (0, l4)] (H) (G) (wZ L xs) (M := tbM220) rfl rfl ⟨trivial, o1, trivial⟩ ?_
    refine e3_br (M := tbM220) rfl rfl rfl Iff.rfl (fun hc => ?_) (fun hc => ?_)
    · replace h := h.1 hc
      refine e3_K [0, 2] 100 [(2, 40), (0, l1), (0, l2), (0, l3), (0, l4), (3, 0), (3, 0)] [(0, (H 40 7))] (H) (G) (wZ L xs) (M := tbM220) rfl rfl ⟨trivial, trivial⟩ ?_
      refine e3_br (M := tbM220) rfl rfl rfl Iff.rfl (fun hc => ?_) (fun hc => ?_)
      · replace h := h.1 hc
        refine e3_K [0] 105 [(2, 40), (0, l1), (0, l2), (0, l3), (0, l4), (3, 0), (3, 0)] [(0, l4)] (H) (G) (wZ L xs) (M := tbM220) rfl rfl trivial ?_
        refine e3_br (M := tbM220) rfl rfl rfl Iff.rfl (fun hc => ?_) (fun hc => ?_)
        · replace h := h.1 hc
          refine e3_K [0, 0] 111 [(2, 40), (0, l1), (0, l2), (0, l3), (0, l4), (3, 0), (3, 0)] [(0, 44), (2, 40)] (H) (G) (wZ L xs) (M := tbM220) rfl rfl trivial ?_
          refine e3_call (o := 0) (k := 215) (M2 := tbM215) (f1 := 0) (w1 := 0) (as := [(2, 40), (0, 44)]) (rest := []) (M := tbM220) rfl rfl rfl trivial (Nat.le_of_ble_eq_true rfl) (Nat.le_of_ble_eq_true rfl) (Nat.le_of_ble_eq_true rfl) ?_
          refine e3_mono (sM_isSign L xs _ _ _ _ h) (fun r H2 G3 h => ?_)
          obtain ⟨x4, rfl, h⟩ := h
          change e3_Ev _ _ _ _ 114 [(2, 40), (0, l1), (0, l2), (0, l3), (0, l4), (3, 0), (3, 0)] [(0, x4)] H2 G3 _
          refine e3_br (M := tbM220) rfl rfl rfl Iff.rfl (fun hc => ?_) (fun hc => ?_)
          · replace h := h.1 hc
            refine e3_K [0, 0] 120 [(2, 40), (0, l1), (0, l2), (0, l3), (0, l4), (3, 0), (3, 0)] [(0, 6), (2, 40)] (H2) (G3) (wZ L xs) (M := tbM220) rfl rfl trivial ?_
            refine e3_call (o := 0) (k := 209) (M2 := tbM209) (f1 := 1) (w1 := 22) (as := [(2, 40), (0, 6)]) (rest := []) (M := tbM220) rfl rfl rfl trivial (Nat.le_of_ble_eq_true rfl) (Nat.le_of_ble_eq_true rfl) (Nat.le_of_ble_eq_true rfl) ?_
            refine e3_mono (sM_stop L xs _ _ _ _ h) (fun r H5 G6 h => ?_)
            obtain ⟨rfl, h⟩ := h
            change e3_Ev _ _ _ _ 123 [(2, 40), (0, l1), (0, l2), (0, l3), (0, l4), (3, 0), (3, 0)] [] H5 G6 _
            exact sM_readRule_123 L xs Q (fun l1 l2 l3 l4 H G => wM_readRule_85 Q nn l1 l2 l3 l4 H G) ih _ _ _ _ _ _ h
          · replace h := h.2 hc
            exact sM_readRule_123 L xs Q (fun l1 l2 l3 l4 H G => wM_readRule_85 Q nn l1 l2 l3 l4 H G) ih _ _ _ _ _ _ h
        · replace h := h.2 hc
          exact sM_readRule_133 L xs Q (fun l1 l2 l3 l4 H G => wM_readRule_85 Q nn l1 l2 l3 l4 H G) ih _ _ _ _ _ _ h
      · replace h := h.2 hc
        refine e3_fgt [true, true, false, false, false, false, false] ?_
        exact sM_readRule_252 L xs Q _ _ _ h
    · replace h := h.2 hc
      refine e3_fgt [true, true, false, false, false, false, false] ?_
      exact sM_readRule_252 L xs Q _ _ _ h
set_option maxRecDepth 100000 in
set_option maxHeartbeats 4000000 in
theorem sM_readRule_37 (L : Nat) (xs : Nat → Int32) (Q : e3_H → e3_G → Prop) (l1 : Int) (l2 : Int) (s0 : Int) (s1 : Int) (H : e3_H) (G : e3_G) (h : wM_readRule_37 Q l1 l2 s0 s1 H G) : e3_Ev (wB L xs) 9 210 220 37 [(2, 40), (0, l1), (0, l2), (3, 0), (3, 0), (3, 0), (3, 0)] [(0, s0), (0, s1), (2, 40)] H G (e3_qv Q) := by
  unfold wM_readRule_37 at h
  refine e3_K [0, 2] 41 [(2, 40), (0, l1), (0, l2), (3, 0), (3, 0), (3, 0), (3, 0)] [] (e3_up H 40 27 (e3_w32 (s1 + s0))) (G) (wZ L xs) (M := tbM220) rfl rfl ⟨trivial, trivial⟩ ?_
  generalize hH1 : (e3_up H 40 27 (e3_w32 (s1 + s0))) = H1
  replace h := h H1 hH1.symm
  obtain ⟨o3, h⟩ := h
  refine e3_K [0, 4, 0, 2, 0, 2, 2] 54 [(2, 40), (0, l1), (0, l2), (3, 0), (3, 0), (3, 0), (3, 0)] [] (e3_up H1 73 (H1 40 27) (H1 40 5)) (G) (wZ L xs) (M := tbM220) rfl rfl ⟨trivial, trivial, trivial, o3, trivial⟩ ?_
  generalize hH2 : (e3_up H1 73 (H1 40 27) (H1 40 5)) = H2
  replace h := h H2 hH2.symm
  obtain ⟨o5, h⟩ := h
  refine e3_K [0, 4, 0, 2, 0, 2] 64 [(2, 40), (0, l1), (0, l2), (3, 0), (3, 0), (3, 0), (3, 0)] [] (e3_up H2 56 (H2 40 27) 0) (G) (wZ L xs) (M := tbM220) rfl rfl ⟨trivial, trivial, o5, trivial⟩ ?_
  generalize hH4 : (e3_up H2 56 (H2 40 27) 0) = H4
  replace h := h H4 hH4.symm
  refine e3_K [0, 0, 2] 69 [(2, 40), (0, l1), (0, l2), (3, 0), (3, 0), (3, 0), (3, 0)] [] (e3_up H4 40 31 0) (G) (wZ L xs) (M := tbM220) rfl rfl ⟨trivial, trivial⟩ ?_
  generalize hH6 : (e3_up H4 40 31 0) = H6
  replace h := h H6 hH6.symm
  obtain ⟨o8, h⟩ := h
  refine e3_K [0, 0, 0, 4, 0, 2, 0, 2] 82 [(2, 40), (0, l1), (0, l2), (0, (-4)), (3, 0), (3, 0), (3, 0)] [] (e3_up H6 74 (H6 40 27) 1) (G) (wZ L xs) (M := tbM220) rfl rfl ⟨trivial, trivial, o8, trivial⟩ ?_
  generalize hH7 : (e3_up H6 74 (H6 40 27) 1) = H7
  replace h := h H7 hH7.symm
  refine e3_K [0, 0] 85 [(2, 40), (0, l1), (0, l2), (0, (-4)), (0, 0), (3, 0), (3, 0)] [] (H7) (G) (wZ L xs) (M := tbM220) rfl rfl trivial ?_
  obtain ⟨nl, h⟩ := h
  exact sM_readRule_85 L xs Q nl _ _ _ _ _ _ h
set_option maxRecDepth 100000 in
set_option maxHeartbeats 4000000 in
theorem sM_readRule_16 (L : Nat) (xs : Nat → Int32) (Q : e3_H → e3_G → Prop) (l1 : Int) (s0 : Int) (H : e3_H) (G : e3_G) (h : wM_readRule_16 Q l1 s0 H G) : e3_Ev (wB L xs) 9 210 220 16 [(2, 40), (0, l1), (3, 0), (3, 0), (3, 0), (3, 0), (3, 0)] [(0, s0)] H G (e3_qv Q) := by
  unfold wM_readRule_16 at h
  refine e3_K [0, 0, 0, 0, 0, 0] 23 [(2, 40), (0, l1), (0, s0), (3, 0), (3, 0), (3, 0), (3, 0)] [(0, s0), (0, (e3_w32 (16 * l1))), (2, 40)] (H) (G) (wZ L xs) (M := tbM220) rfl rfl trivial ?_
  refine e3_br (M := tbM220) rfl rfl rfl Iff.rfl (fun hc => ?_) (fun hc => ?_)
  · replace h := h.1 hc
    obtain ⟨o1, h⟩ := h
    refine e3_K [0, 4, 0, 2] 37 [(2, 40), (0, l1), (0, s0), (3, 0), (3, 0), (3, 0), (3, 0)] [(0, (H 70 l1)), (0, (e3_w32 (16 * l1))), (2, 40)] (H) (G) (wZ L xs) (M := tbM220) rfl rfl ⟨trivial, o1, trivial⟩ ?_
    exact sM_readRule_37 L xs Q _ _ _ _ _ _ h
  · replace h := h.2 hc
    refine e3_K [0, 0] 37 [(2, 40), (0, l1), (0, s0), (3, 0), (3, 0), (3, 0), (3, 0)] [(0, 15), (0, (e3_w32 (16 * l1))), (2, 40)] (H) (G) (wZ L xs) (M := tbM220) rfl rfl trivial ?_
    exact sM_readRule_37 L xs Q _ _ _ _ _ _ h
set_option maxRecDepth 100000 in
set_option maxHeartbeats 4000000 in
theorem sM_readRule (L : Nat) (xs : Nat → Int32) (Q : e3_H → e3_G → Prop) (l1 : Int) (H : e3_H) (G : e3_G) (h : wM_readRule Q l1 H G) : e3_Ev (wB L xs) 9 210 220 0 [(2, 40), (0, l1), (3, 0), (3, 0), (3, 0), (3, 0), (3, 0)] [] H G (e3_qv Q) := by
  unfold wM_readRule at h
  obtain ⟨o1, h⟩ := h
  refine e3_K [0, 4, 0, 2, 0] 8 [(2, 40), (0, l1), (3, 0), (3, 0), (3, 0), (3, 0), (3, 0)] [(0, 16), (0, (H 70 l1))] (H) (G) (wZ L xs) (M := tbM220) rfl rfl ⟨trivial, o1, trivial⟩ ?_
  refine e3_br (M := tbM220) rfl rfl rfl Iff.rfl (fun hc => ?_) (fun hc => ?_)
  · replace h := h.1 hc
    refine e3_K [0, 0] 16 [(2, 40), (0, l1), (3, 0), (3, 0), (3, 0), (3, 0), (3, 0)] [(0, 1)] (H) (G) (wZ L xs) (M := tbM220) rfl rfl trivial ?_
    exact sM_readRule_16 L xs Q _ _ _ _ h
  · replace h := h.2 hc
    refine e3_K [0] 16 [(2, 40), (0, l1), (3, 0), (3, 0), (3, 0), (3, 0), (3, 0)] [(0, 0)] (H) (G) (wZ L xs) (M := tbM220) rfl rfl trivial ?_
    exact sM_readRule_16 L xs Q _ _ _ _ h
