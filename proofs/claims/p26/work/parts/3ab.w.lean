/-- LetterPost$Tokens.step()V -/
def wT_step_62 (Q : e3_H → e3_G → Prop)  (H : e3_H) (G : e3_G) : Prop :=
  Q H G
def wT_step (Q : e3_H → e3_G → Prop)  (H : e3_H) (G : e3_G) : Prop :=
  ((((e3_w32 ((H 3 6) + 1)) : Int) < (H 3 5) → ∀ H1 : e3_H, H1 = e3_up H 3 6 (e3_w32 ((H 3 6) + 1)) → ((0 : Int) ≤ (H1 3 6) ∧ ((H1 3 6) : Int) < 1601) ∧ ∀ H2 : e3_H, H2 = e3_up H1 3 7 (H1 5 (H1 3 6)) → ((0 : Int) ≤ (H2 3 6) ∧ ((H2 3 6) : Int) < 1601) ∧ ∀ H4 : e3_H, H4 = e3_up H2 3 8 (H2 6 (H2 3 6)) → ((0 : Int) ≤ (H4 3 6) ∧ ((H4 3 6) : Int) < 1601) ∧ ∀ H6 : e3_H, H6 = e3_up H4 3 9 (H4 7 (H4 3 6)) → (wT_step_62 Q H6 G)) ∧ (¬ (((e3_w32 ((H 3 6) + 1)) : Int) < (H 3 5)) → (wT_step_62 Q H G)))
set_option maxRecDepth 100000 in
set_option maxHeartbeats 4000000 in
theorem sT_step_62 (L : Nat) (xs : Nat → Int32) (Q : e3_H → e3_G → Prop)  (H : e3_H) (G : e3_G) (h : wT_step_62 Q  H G) : e3_Ev (wB L xs) 0 0 25 62 [(3, 0)] [] H G (e3_qv Q) := by
  unfold wT_step_62 at h
  exact e3_retv (M := tbM25) rfl rfl rfl ⟨rfl, h⟩
set_option maxRecDepth 100000 in
set_option maxHeartbeats 4000000 in
theorem sT_step (L : Nat) (xs : Nat → Int32) (Q : e3_H → e3_G → Prop)  (H : e3_H) (G : e3_G) (h : wT_step Q  H G) : e3_Ev (wB L xs) 0 0 25 0 [(2, 3)] [] H G (e3_qv Q) := by
  unfold wT_step at h
  refine e3_K [0, 2, 0, 0, 0, 2] 10 [(2, 3)] [(0, (H 3 5)), (0, (e3_w32 ((H 3 6) + 1)))] (H) (G) (wZ L xs) (M := tbM25) rfl rfl ⟨trivial, trivial, trivial⟩ ?_
  refine e3_br (M := tbM25) rfl rfl rfl Iff.rfl (fun hc => ?_) (fun hc => ?_)
  · replace h := h.1 hc
    refine e3_K [0, 0, 2, 0, 0, 2] 23 [(2, 3)] [] (e3_up H 3 6 (e3_w32 ((H 3 6) + 1))) (G) (wZ L xs) (M := tbM25) rfl rfl ⟨trivial, trivial, trivial⟩ ?_
    generalize hH1 : (e3_up H 3 6 (e3_w32 ((H 3 6) + 1))) = H1
    replace h := h H1 hH1.symm
    obtain ⟨o3, h⟩ := h
    refine e3_K [0, 0, 4, 0, 2, 2, 2] 36 [(2, 3)] [] (e3_up H1 3 7 (H1 5 (H1 3 6))) (G) (wZ L xs) (M := tbM25) rfl rfl ⟨trivial, trivial, o3, trivial, trivial⟩ ?_
    generalize hH2 : (e3_up H1 3 7 (H1 5 (H1 3 6))) = H2
    replace h := h H2 hH2.symm
    obtain ⟨o5, h⟩ := h
    refine e3_K [0, 0, 4, 0, 2, 2, 2] 49 [(2, 3)] [] (e3_up H2 3 8 (H2 6 (H2 3 6))) (G) (wZ L xs) (M := tbM25) rfl rfl ⟨trivial, trivial, o5, trivial, trivial⟩ ?_
    generalize hH4 : (e3_up H2 3 8 (H2 6 (H2 3 6))) = H4
    replace h := h H4 hH4.symm
    obtain ⟨o7, h⟩ := h
    refine e3_K [0, 0, 4, 0, 2, 2, 2] 62 [(2, 3)] [] (e3_up H4 3 9 (H4 7 (H4 3 6))) (G) (wZ L xs) (M := tbM25) rfl rfl ⟨trivial, trivial, o7, trivial, trivial⟩ ?_
    generalize hH6 : (e3_up H4 3 9 (H4 7 (H4 3 6))) = H6
    replace h := h H6 hH6.symm
    refine e3_fgt [false] ?_
    exact sT_step_62 L xs Q _ _ h
  · replace h := h.2 hc
    refine e3_fgt [false] ?_
    exact sT_step_62 L xs Q _ _ h
/-- LetterPost$Tokens.cut()V -/
def wT_cut_73 (Q : e3_H → e3_G → Prop)  (H : e3_H) (G : e3_G) : Prop :=
  ∀ H1 : e3_H, H1 = e3_up H 3 1 0 → ∀ H2 : e3_H, H2 = e3_up H1 3 6 (-1) → (wT_step (fun H3 G4 => Q H3 G4) H2 G)
def wT_cut_66 (Q : e3_H → e3_G → Prop) (k11 : Int → Int → Int → e3_H → e3_G → Prop) (l1 : Int) (l3 : Int) (s0 : Int) (H : e3_H) (G : e3_G) : Prop :=
  (k11 l1 s0 (e3_w32 (l3 + 1)) H G)
def wT_cut_65 (Q : e3_H → e3_G → Prop) (k11 : Int → Int → Int → e3_H → e3_G → Prop) (l1 : Int) (l3 : Int) (H : e3_H) (G : e3_G) : Prop :=
  (wT_cut_66 Q k11 l1 l3 0 H G)
def wT_cut_11 (Q : e3_H → e3_G → Prop) : Nat → Int → Int → Int → e3_H → e3_G → Prop
  | 0, _, _, _, _, _ => False
  | nn + 1, l1, l2, l3, H, G => (((1600 : Int) < l3 → (wT_cut_73 Q H G)) ∧ (¬ ((1600 : Int) < l3) → (((l2 : Int) = 0 → (wT_cut_73 Q H G)) ∧ (¬ ((l2 : Int) = 0) → (wT_behindBlanks (fun x3 H1 G2 => (wT_cutOne (fun x6 H4 G5 => ((0 : Int) ≤ (e3_w32 ((H4 3 5) - 1)) ∧ ((e3_w32 ((H4 3 5) - 1)) : Int) < 1601) ∧ ((((H4 5 (e3_w32 ((H4 3 5) - 1))) : Int) = 256 → (wT_cut_65 Q (fun l1 l2 l3 H G => wT_cut_11 Q nn l1 l2 l3 H G) x6 l3 H4 G5)) ∧ (¬ (((H4 5 (e3_w32 ((H4 3 5) - 1))) : Int) = 256) → ((((H4 5 (e3_w32 ((H4 3 5) - 1))) : Int) = 257 → (wT_cut_65 Q (fun l1 l2 l3 H G => wT_cut_11 Q nn l1 l2 l3 H G) x6 l3 H4 G5)) ∧ (¬ (((H4 5 (e3_w32 ((H4 3 5) - 1))) : Int) = 257) → (wT_cut_66 Q (fun l1 l2 l3 H G => wT_cut_11 Q nn l1 l2 l3 H G) x6 l3 1 H4 G5)))))) x3 H1 G2)) l1 H G)))))
def wT_cut (Q : e3_H → e3_G → Prop)  (H : e3_H) (G : e3_G) : Prop :=
  ∀ H1 : e3_H, H1 = e3_up H 3 5 0 → (∃ n, wT_cut_11 Q n 0 1 0 H1 G)
set_option maxRecDepth 100000 in
set_option maxHeartbeats 4000000 in
theorem sT_cut_73 (L : Nat) (xs : Nat → Int32) (Q : e3_H → e3_G → Prop)  (H : e3_H) (G : e3_G) (h : wT_cut_73 Q  H G) : e3_Ev (wB L xs) 9 423 14 73 [(2, 3), (3, 0), (3, 0), (3, 0), (3, 0)] [] H G (e3_qv Q) := by
  unfold wT_cut_73 at h
  refine e3_K [0, 0, 2] 78 [(2, 3), (3, 0), (3, 0), (3, 0), (3, 0)] [] (e3_up H 3 1 0) (G) (wZ L xs) (M := tbM14) rfl rfl ⟨trivial, trivial⟩ ?_
  generalize hH1 : (e3_up H 3 1 0) = H1
  replace h := h H1 hH1.symm
  refine e3_K [0, 0, 2] 83 [(2, 3), (3, 0), (3, 0), (3, 0), (3, 0)] [] (e3_up H1 3 6 (-1)) (G) (wZ L xs) (M := tbM14) rfl rfl ⟨trivial, trivial⟩ ?_
  generalize hH2 : (e3_up H1 3 6 (-1)) = H2
  replace h := h H2 hH2.symm
  refine e3_K [0] 84 [(2, 3), (3, 0), (3, 0), (3, 0), (3, 0)] [(2, 3)] (H2) (G) (wZ L xs) (M := tbM14) rfl rfl trivial ?_
  refine e3_call (o := 0) (k := 25) (M2 := tbM25) (f1 := 0) (w1 := 0) (as := [(2, 3)]) (rest := []) (M := tbM14) rfl rfl rfl trivial (Nat.le_of_ble_eq_true rfl) (Nat.le_of_ble_eq_true rfl) (Nat.le_of_ble_eq_true rfl) ?_
  refine e3_mono (sT_step L xs _ _ _ h) (fun r H3 G4 h => ?_)
  obtain ⟨rfl, h⟩ := h
  change e3_Ev _ _ _ _ 87 [(2, 3), (3, 0), (3, 0), (3, 0), (3, 0)] [] H3 G4 _
  exact e3_retv (M := tbM14) rfl rfl rfl ⟨rfl, h⟩
set_option maxRecDepth 100000 in
set_option maxHeartbeats 4000000 in
theorem sT_cut_66 (L : Nat) (xs : Nat → Int32) (Q : e3_H → e3_G → Prop) (k11 : Int → Int → Int → e3_H → e3_G → Prop) (hk11 : ∀ (l1 : Int) (l2 : Int) (l3 : Int) (H : e3_H) (G : e3_G), k11 l1 l2 l3 H G → e3_Ev (wB L xs) 9 423 14 11 [(2, 3), (0, l1), (0, l2), (0, l3), (3, 0)] [] H G (e3_qv Q)) (l1 : Int) (l3 : Int) (s0 : Int) (H : e3_H) (G : e3_G) (h : wT_cut_66 Q k11 l1 l3 s0 H G) : e3_Ev (wB L xs) 9 423 14 66 [(2, 3), (0, l1), (3, 0), (0, l3), (3, 0)] [(0, s0)] H G (e3_qv Q) := by
  unfold wT_cut_66 at h
  refine e3_K [0, 0, 0] 11 [(2, 3), (0, l1), (0, s0), (0, (e3_w32 (l3 + 1))), (3, 0)] [] (H) (G) (wZ L xs) (M := tbM14) rfl rfl trivial ?_
  exact hk11 _ _ _ _ _ h
set_option maxRecDepth 100000 in
set_option maxHeartbeats 4000000 in
theorem sT_cut_65 (L : Nat) (xs : Nat → Int32) (Q : e3_H → e3_G → Prop) (k11 : Int → Int → Int → e3_H → e3_G → Prop) (hk11 : ∀ (l1 : Int) (l2 : Int) (l3 : Int) (H : e3_H) (G : e3_G), k11 l1 l2 l3 H G → e3_Ev (wB L xs) 9 423 14 11 [(2, 3), (0, l1), (0, l2), (0, l3), (3, 0)] [] H G (e3_qv Q)) (l1 : Int) (l3 : Int) (H : e3_H) (G : e3_G) (h : wT_cut_65 Q k11 l1 l3 H G) : e3_Ev (wB L xs) 9 423 14 65 [(2, 3), (0, l1), (3, 0), (0, l3), (3, 0)] [] H G (e3_qv Q) := by
  unfold wT_cut_65 at h
  refine e3_K [0] 66 [(2, 3), (0, l1), (3, 0), (0, l3), (3, 0)] [(0, 0)] (H) (G) (wZ L xs) (M := tbM14) rfl rfl trivial ?_
  exact sT_cut_66 L xs Q k11 hk11 _ _ _ _ _ h
set_option maxRecDepth 100000 in
set_option maxHeartbeats 4000000 in
theorem sT_cut_11 (L : Nat) (xs : Nat → Int32) (Q : e3_H → e3_G → Prop) : ∀ (nl : Nat) (l1 : Int) (l2 : Int) (l3 : Int) (H : e3_H) (G : e3_G), wT_cut_11 Q nl l1 l2 l3 H G → e3_Ev (wB L xs) 9 423 14 11 [(2, 3), (0, l1), (0, l2), (0, l3), (3, 0)] [] H G (e3_qv Q) := by
  intro nl
  induction nl with
  | zero => intro l1 l2 l3 H G h; exact h.elim
  | succ nn ih =>
    intro l1 l2 l3 H G h
    have h : (((1600 : Int) < l3 → (wT_cut_73 Q H G)) ∧ (¬ ((1600 : Int) < l3) → (((l2 : Int) = 0 → (wT_cut_73 Q H G)) ∧ (¬ ((l2 : Int) = 0) → (wT_behindBlanks (fun x3 H1 G2 => (wT_cutOne (fun x6 H4 G5 => ((0 : Int) ≤ (e3_w32 ((H4 3 5) - 1)) ∧ ((e3_w32 ((H4 3 5) - 1)) : Int) < 1601) ∧ ((((H4 5 (e3_w32 ((H4 3 5) - 1))) : Int) = 256 → (wT_cut_65 Q (fun l1 l2 l3 H G => wT_cut_11 Q nn l1 l2 l3 H G) x6 l3 H4 G5)) ∧ (¬ (((H4 5 (e3_w32 ((H4 3 5) - 1))) : Int) = 256) → ((((H4 5 (e3_w32 ((H4 3 5) - 1))) : Int) = 257 → (wT_cut_65 Q (fun l1 l2 l3 H G => wT_cut_11 Q nn l1 l2 l3 H G) x6 l3 H4 G5)) ∧ (¬ (((H4 5 (e3_w32 ((H4 3 5) - 1))) : Int) = 257) → (wT_cut_66 Q (fun l1 l2 l3 H G => wT_cut_11 Q nn l1 l2 l3 H G) x6 l3 1 H4 G5)))))) x3 H1 G2)) l1 H G))))) := h
    refine e3_K [0, 0] 15 [(2, 3), (0, l1), (0, l2), (0, l3), (3, 0)] [(0, 1600), (0, l3)] (H) (G) (wZ L xs) (M := tbM14) rfl rfl trivial ?_
    refine e3_br (M := tbM14) rfl rfl rfl Iff.rfl (fun hc => ?_) (fun hc => ?_)
    · replace h := h.1 hc
      refine e3_fgt [true, false, false, false, false] ?_
      exact sT_cut_73 L xs Q _ _ h
    · replace h := h.2 hc
      refine e3_K [0] 19 [(2, 3), (0, l1), (0, l2), (0, l3), (3, 0)] [(0, l2)] (H) (G) (wZ L xs) (M := tbM14) rfl rfl trivial ?_
      refine e3_br (M := tbM14) rfl rfl rfl Iff.rfl (fun hc => ?_) (fun hc => ?_)
      · replace h := h.1 hc
        refine e3_fgt [true, false, false, false, false] ?_
        exact sT_cut_73 L xs Q _ _ h
      · replace h := h.2 hc
        refine e3_K [0, 0, 0] 25 [(2, 3), (0, l1), (0, l2), (0, l3), (3, 0)] [(0, l1), (2, 3), (2, 3)] (H) (G) (wZ L xs) (M := tbM14) rfl rfl trivial ?_
        refine e3_call (o := 0) (k := 15) (M2 := tbM15) (f1 := 0) (w1 := 0) (as := [(2, 3), (0, l1)]) (rest := [(2, 3)]) (M := tbM14) rfl rfl rfl trivial (Nat.le_of_ble_eq_true rfl) (Nat.le_of_ble_eq_true rfl) (Nat.le_of_ble_eq_true rfl) ?_
        refine e3_mono (sT_behindBlanks L xs _ _ _ _ h) (fun r H1 G2 h => ?_)
        obtain ⟨x3, rfl, h⟩ := h
        change e3_Ev _ _ _ _ 28 [(2, 3), (0, l1), (0, l2), (0, l3), (3, 0)] [(0, x3), (2, 3)] H1 G2 _
        refine e3_call (o := 0) (k := 16) (M2 := tbM16) (f1 := 8) (w1 := 400) (as := [(2, 3), (0, x3)]) (rest := []) (M := tbM14) rfl rfl rfl trivial (Nat.le_of_ble_eq_true rfl) (Nat.le_of_ble_eq_true rfl) (Nat.le_of_ble_eq_true rfl) ?_
        refine e3_mono (sT_cutOne L xs _ _ _ _ h) (fun r H4 G5 h => ?_)
        obtain ⟨x6, rfl, h⟩ := h
        change e3_Ev _ _ _ _ 31 [(2, 3), (0, l1), (0, l2), (0, l3), (3, 0)] [(0, x6)] H4 G5 _
        obtain ⟨o7, h⟩ := h
        refine e3_K [0, 0, 4, 0, 2, 0, 0, 2, 0, 0, 0] 50 [(2, 3), (0, x6), (0, l2), (0, l3), (0, (H4 5 (e3_w32 ((H4 3 5) - 1))))] [(0, 256), (0, (H4 5 (e3_w32 ((H4 3 5) - 1))))] (H4) (G5) (wZ L xs) (M := tbM14) rfl rfl ⟨trivial, trivial, o7, trivial⟩ ?_
        refine e3_br (M := tbM14) rfl rfl rfl Iff.rfl (fun hc => ?_) (fun hc => ?_)
        · replace h := h.1 hc
          refine e3_fgt [true, true, false, true, false] ?_
          exact sT_cut_65 L xs Q (fun l1 l2 l3 H G => wT_cut_11 Q nn l1 l2 l3 H G) ih _ _ _ _ h
        · replace h := h.2 hc
          refine e3_K [0, 0] 58 [(2, 3), (0, x6), (0, l2), (0, l3), (0, (H4 5 (e3_w32 ((H4 3 5) - 1))))] [(0, 257), (0, (H4 5 (e3_w32 ((H4 3 5) - 1))))] (H4) (G5) (wZ L xs) (M := tbM14) rfl rfl trivial ?_
          refine e3_br (M := tbM14) rfl rfl rfl Iff.rfl (fun hc => ?_) (fun hc => ?_)
          · replace h := h.1 hc
            refine e3_fgt [true, true, false, true, false] ?_
            exact sT_cut_65 L xs Q (fun l1 l2 l3 H G => wT_cut_11 Q nn l1 l2 l3 H G) ih _ _ _ _ h
          · replace h := h.2 hc
            refine e3_K [0, 0] 66 [(2, 3), (0, x6), (0, l2), (0, l3), (0, (H4 5 (e3_w32 ((H4 3 5) - 1))))] [(0, 1)] (H4) (G5) (wZ L xs) (M := tbM14) rfl rfl trivial ?_
            refine e3_fgt [true, true, false, true, false] ?_
            exact sT_cut_66 L xs Q (fun l1 l2 l3 H G => wT_cut_11 Q nn l1 l2 l3 H G) ih _ _ _ _ _ h
set_option maxRecDepth 100000 in
set_option maxHeartbeats 4000000 in
theorem sT_cut (L : Nat) (xs : Nat → Int32) (Q : e3_H → e3_G → Prop)  (H : e3_H) (G : e3_G) (h : wT_cut Q  H G) : e3_Ev (wB L xs) 9 423 14 0 [(2, 3), (3, 0), (3, 0), (3, 0), (3, 0)] [] H G (e3_qv Q) := by
  unfold wT_cut at h
  refine e3_K [0, 0, 2] 5 [(2, 3), (3, 0), (3, 0), (3, 0), (3, 0)] [] (e3_up H 3 5 0) (G) (wZ L xs) (M := tbM14) rfl rfl ⟨trivial, trivial⟩ ?_
  generalize hH1 : (e3_up H 3 5 0) = H1
  replace h := h H1 hH1.symm
  refine e3_K [0, 0, 0, 0, 0, 0] 11 [(2, 3), (0, 0), (0, 1), (0, 0), (3, 0)] [] (H1) (G) (wZ L xs) (M := tbM14) rfl rfl trivial ?_
  obtain ⟨nl, h⟩ := h
  exact sT_cut_11 L xs Q nl _ _ _ _ _ h
/-- LetterPost$Reader.begin()V -/
def wR_begin (Q : e3_H → e3_G → Prop)  (H : e3_H) (G : e3_G) : Prop :=
  (wT_cut (fun H1 G2 => ∀ H4 : e3_H, H4 = e3_up H1 14 4 0 → ∀ H5 : e3_H, H5 = e3_up H4 14 5 0 → Q H5 G2) H G)
set_option maxRecDepth 100000 in
set_option maxHeartbeats 4000000 in
theorem sR_begin (L : Nat) (xs : Nat → Int32) (Q : e3_H → e3_G → Prop)  (H : e3_H) (G : e3_G) (h : wR_begin Q  H G) : e3_Ev (wB L xs) 10 447 13 0 [(2, 14)] [] H G (e3_qv Q) := by
  unfold wR_begin at h
  refine e3_K [0, 4] 4 [(2, 14)] [(2, 3)] (H) (G) (wZ L xs) (M := tbM13) rfl rfl ⟨trivial, trivial⟩ ?_
  refine e3_call (o := 0) (k := 14) (M2 := tbM14) (f1 := 9) (w1 := 423) (as := [(2, 3)]) (rest := []) (M := tbM13) rfl rfl rfl trivial (Nat.le_of_ble_eq_true rfl) (Nat.le_of_ble_eq_true rfl) (Nat.le_of_ble_eq_true rfl) ?_
  refine e3_mono (sT_cut L xs _ _ _ h) (fun r H1 G2 h => ?_)
  obtain ⟨rfl, h⟩ := h
  change e3_Ev _ _ _ _ 7 [(2, 14)] [] H1 G2 _
  refine e3_K [0, 0, 2] 12 [(2, 14)] [] (e3_up H1 14 4 0) (G2) (wZ L xs) (M := tbM13) rfl rfl ⟨trivial, trivial⟩ ?_
  generalize hH4 : (e3_up H1 14 4 0) = H4
  replace h := h H4 hH4.symm
  refine e3_K [0, 0, 2] 17 [(2, 14)] [] (e3_up H4 14 5 0) (G2) (wZ L xs) (M := tbM13) rfl rfl ⟨trivial, trivial⟩ ?_
  generalize hH5 : (e3_up H4 14 5 0) = H5
  replace h := h H5 hH5.symm
  exact e3_retv (M := tbM13) rfl rfl rfl ⟨rfl, h⟩
/-- LetterPost$Reader.failHere(I)Z -/
def wR_failHere_19 (Q : Int → e3_H → e3_G → Prop) (s0 : Int) (H : e3_H) (G : e3_G) : Prop :=
  ∀ H1 : e3_H, H1 = e3_up H 14 4 s0 → ∀ H2 : e3_H, H2 = e3_up H1 14 5 (H1 3 8) → Q 0 H2 G
def wR_failHere (Q : Int → e3_H → e3_G → Prop) (l1 : Int) (H : e3_H) (G : e3_G) : Prop :=
  ((((H 3 7) : Int) = 257 → (wR_failHere_19 Q 1 H G)) ∧ (¬ (((H 3 7) : Int) = 257) → (wR_failHere_19 Q l1 H G)))
set_option maxRecDepth 100000 in
set_option maxHeartbeats 4000000 in
theorem sR_failHere_19 (L : Nat) (xs : Nat → Int32) (Q : Int → e3_H → e3_G → Prop) (s0 : Int) (H : e3_H) (G : e3_G) (h : wR_failHere_19 Q s0 H G) : e3_Ev (wB L xs) 0 0 27 19 [(2, 14), (3, 0)] [(0, s0), (2, 14)] H G (e3_q0 Q) := by
  unfold wR_failHere_19 at h
  refine e3_K [2] 22 [(2, 14), (3, 0)] [] (e3_up H 14 4 s0) (G) (wZ L xs) (M := tbM27) rfl rfl ⟨trivial, trivial⟩ ?_
  generalize hH1 : (e3_up H 14 4 s0) = H1
  replace h := h H1 hH1.symm
  refine e3_K [0, 0, 4, 2, 2] 33 [(2, 14), (3, 0)] [] (e3_up H1 14 5 (H1 3 8)) (G) (wZ L xs) (M := tbM27) rfl rfl ⟨trivial, trivial, trivial, trivial⟩ ?_
  generalize hH2 : (e3_up H1 14 5 (H1 3 8)) = H2
  replace h := h H2 hH2.symm
  refine e3_K [0] 34 [(2, 14), (3, 0)] [(0, 0)] (H2) (G) (wZ L xs) (M := tbM27) rfl rfl trivial ?_
  exact e3_retb (M := tbM27) rfl rfl rfl (Or.inl rfl) ⟨_, rfl, h⟩
set_option maxRecDepth 100000 in
set_option maxHeartbeats 4000000 in
theorem sR_failHere (L : Nat) (xs : Nat → Int32) (Q : Int → e3_H → e3_G → Prop) (l1 : Int) (H : e3_H) (G : e3_G) (h : wR_failHere Q l1 H G) : e3_Ev (wB L xs) 0 0 27 0 [(2, 14), (0, l1)] [] H G (e3_q0 Q) := by
  unfold wR_failHere at h
  refine e3_K [0, 0, 4, 2, 0] 11 [(2, 14), (0, l1)] [(0, 257), (0, (H 3 7)), (2, 14)] (H) (G) (wZ L xs) (M := tbM27) rfl rfl ⟨trivial, trivial, trivial⟩ ?_
  refine e3_br (M := tbM27) rfl rfl rfl Iff.rfl (fun hc => ?_) (fun hc => ?_)
  · replace h := h.1 hc
    refine e3_K [0, 0] 19 [(2, 14), (0, l1)] [(0, 1), (2, 14)] (H) (G) (wZ L xs) (M := tbM27) rfl rfl trivial ?_
    refine e3_fgt [true, false] ?_
    exact sR_failHere_19 L xs Q _ _ _ h
  · replace h := h.2 hc
    refine e3_K [0] 19 [(2, 14), (0, l1)] [(0, l1), (2, 14)] (H) (G) (wZ L xs) (M := tbM27) rfl rfl trivial ?_
    refine e3_fgt [true, false] ?_
    exact sR_failHere_19 L xs Q _ _ _ h
/-- LetterPost$Kinds.find(J)I -/
def wK_find_2 (Q : Int → e3_H → e3_G → Prop) : Nat → Int → Int → e3_H → e3_G → Prop
  | 0, _, _, _, _ => False
  | nn + 1, l1, l3, H, G => (((l3 : Int) < (H 8 0) → ((0 : Int) ≤ l3 ∧ (l3 : Int) < 24) ∧ ((((H 9 l3) : Int) = l1 → Q l3 H G) ∧ (¬ (((H 9 l3) : Int) = l1) → (wK_find_2 Q nn l1 (e3_w32 (l3 + 1)) H G)))) ∧ (¬ ((l3 : Int) < (H 8 0)) → Q (-1) H G))
def wK_find (Q : Int → e3_H → e3_G → Prop) (l1 : Int) (H : e3_H) (G : e3_G) : Prop :=
  (∃ n, wK_find_2 Q n l1 0 H G)
set_option maxRecDepth 100000 in
set_option maxHeartbeats 4000000 in
theorem sK_find_2 (L : Nat) (xs : Nat → Int32) (Q : Int → e3_H → e3_G → Prop) : ∀ (nl : Nat) (l1 : Int) (l3 : Int) (H : e3_H) (G : e3_G), wK_find_2 Q nl l1 l3 H G → e3_Ev (wB L xs) 0 0 28 2 [(2, 8), (1, l1), (3, 0), (0, l3)] [] H G (e3_q0 Q) := by
  intro nl
  induction nl with
  | zero => intro l1 l3 H G h; exact h.elim
  | succ nn ih =>
    intro l1 l3 H G h
    have h : (((l3 : Int) < (H 8 0) → ((0 : Int) ≤ l3 ∧ (l3 : Int) < 24) ∧ ((((H 9 l3) : Int) = l1 → Q l3 H G) ∧ (¬ (((H 9 l3) : Int) = l1) → (wK_find_2 Q nn l1 (e3_w32 (l3 + 1)) H G)))) ∧ (¬ ((l3 : Int) < (H 8 0)) → Q (-1) H G)) := h
    refine e3_K [0, 0, 2] 7 [(2, 8), (1, l1), (3, 0), (0, l3)] [(0, (H 8 0)), (0, l3)] (H) (G) (wZ L xs) (M := tbM28) rfl rfl ⟨trivial, trivial⟩ ?_
    refine e3_br (M := tbM28) rfl rfl rfl Iff.rfl (fun hc => ?_) (fun hc => ?_)
    · replace h := h.1 hc
      obtain ⟨o1, h⟩ := h
      refine e3_K [0, 4, 0, 2, 0, 0] 18 [(2, 8), (1, l1), (3, 0), (0, l3)] [(0, (e3_cmp (H 9 l3) l1))] (H) (G) (wZ L xs) (M := tbM28) rfl rfl ⟨trivial, o1, trivial⟩ ?_
      refine e3_br (M := tbM28) rfl rfl rfl e3_cmp_eq (fun hc => ?_) (fun hc => ?_)
      · replace h := h.1 hc
        refine e3_K [0] 22 [(2, 8), (1, l1), (3, 0), (0, l3)] [(0, l3)] (H) (G) (wZ L xs) (M := tbM28) rfl rfl trivial ?_
        exact e3_reti (M := tbM28) rfl rfl rfl ⟨_, rfl, h⟩
      · replace h := h.2 hc
        refine e3_K [0, 0] 2 [(2, 8), (1, l1), (3, 0), (0, (e3_w32 (l3 + 1)))] [] (H) (G) (wZ L xs) (M := tbM28) rfl rfl trivial ?_
        exact ih _ _ _ _ h
    · replace h := h.2 hc
      refine e3_K [0] 30 [(2, 8), (1, l1), (3, 0), (0, l3)] [(0, (-1))] (H) (G) (wZ L xs) (M := tbM28) rfl rfl trivial ?_
      exact e3_reti (M := tbM28) rfl rfl rfl ⟨_, rfl, h⟩
set_option maxRecDepth 100000 in
set_option maxHeartbeats 4000000 in
theorem sK_find (L : Nat) (xs : Nat → Int32) (Q : Int → e3_H → e3_G → Prop) (l1 : Int) (H : e3_H) (G : e3_G) (h : wK_find Q l1 H G) : e3_Ev (wB L xs) 0 0 28 0 [(2, 8), (1, l1), (3, 0), (3, 0)] [] H G (e3_q0 Q) := by
  unfold wK_find at h
  refine e3_K [0, 0] 2 [(2, 8), (1, l1), (3, 0), (0, 0)] [] (H) (G) (wZ L xs) (M := tbM28) rfl rfl trivial ?_
  obtain ⟨nl, h⟩ := h
  exact sK_find_2 L xs Q nl _ _ _ _ h
/-- LetterPost$Kinds.begin(J)I -/
def wK_begin (Q : Int → e3_H → e3_G → Prop) (l1 : Int) (H : e3_H) (G : e3_G) : Prop :=
  ((((H 8 0) : Int) < 24 → ((0 : Int) ≤ (H 8 0) ∧ ((H 8 0) : Int) < 24) ∧ ∀ H1 : e3_H, H1 = e3_up H 9 (H 8 0) l1 → ((0 : Int) ≤ (H1 8 0) ∧ ((H1 8 0) : Int) < 24) ∧ ∀ H3 : e3_H, H3 = e3_up H1 10 (H1 8 0) (-1) → ((0 : Int) ≤ (H3 8 0) ∧ ((H3 8 0) : Int) < 24) ∧ ∀ H5 : e3_H, H5 = e3_up H3 11 (H3 8 0) (e3_and 0 1) → ((0 : Int) ≤ (H5 8 0) ∧ ((H5 8 0) : Int) < 24) ∧ ∀ H7 : e3_H, H7 = e3_up H5 12 (H5 8 0) 0 → ∀ H9 : e3_H, H9 = e3_up H7 8 0 (e3_w32 ((H7 8 0) + 1)) → Q (e3_w32 ((H9 8 0) - 1)) H9 G) ∧ (¬ (((H 8 0) : Int) < 24) → Q (-1) H G))
set_option maxRecDepth 100000 in
set_option maxHeartbeats 4000000 in
theorem sK_begin (L : Nat) (xs : Nat → Int32) (Q : Int → e3_H → e3_G → Prop) (l1 : Int) (H : e3_H) (G : e3_G) (h : wK_begin Q l1 H G) : e3_Ev (wB L xs) 0 0 29 0 [(2, 8), (1, l1), (3, 0)] [] H G (e3_q0 Q) := by
  unfold wK_begin at h
  refine e3_K [0, 2, 0] 6 [(2, 8), (1, l1), (3, 0)] [(0, 24), (0, (H 8 0))] (H) (G) (wZ L xs) (M := tbM29) rfl rfl ⟨trivial, trivial⟩ ?_
  refine e3_br (M := tbM29) rfl rfl rfl Iff.rfl (fun hc => ?_) (fun hc => ?_)
  · replace h := h.1 hc
    obtain ⟨o2, h⟩ := h
    refine e3_K [0, 4, 0, 2, 0, 2] 21 [(2, 8), (1, l1), (3, 0)] [] (e3_up H 9 (H 8 0) l1) (G) (wZ L xs) (M := tbM29) rfl rfl ⟨trivial, trivial, o2, trivial⟩ ?_
    generalize hH1 : (e3_up H 9 (H 8 0) l1) = H1
    replace h := h H1 hH1.symm
    obtain ⟨o4, h⟩ := h
    refine e3_K [0, 4, 0, 2, 0, 2] 31 [(2, 8), (1, l1), (3, 0)] [] (e3_up H1 10 (H1 8 0) (-1)) (G) (wZ L xs) (M := tbM29) rfl rfl ⟨trivial, trivial, o4, trivial⟩ ?_
    generalize hH3 : (e3_up H1 10 (H1 8 0) (-1)) = H3
    replace h := h H3 hH3.symm
    obtain ⟨o6, h⟩ := h
    refine e3_K [0, 4, 0, 2, 0, 2] 41 [(2, 8), (1, l1), (3, 0)] [] (e3_up H3 11 (H3 8 0) (e3_and 0 1)) (G) (wZ L xs) (M := tbM29) rfl rfl ⟨trivial, trivial, o6, trivial⟩ ?_
    generalize hH5 : (e3_up H3 11 (H3 8 0) (e3_and 0 1)) = H5
    replace h := h H5 hH5.symm
    obtain ⟨o8, h⟩ := h
    refine e3_K [0, 4, 0, 2, 0, 2] 51 [(2, 8), (1, l1), (3, 0)] [] (e3_up H5 12 (H5 8 0) 0) (G) (wZ L xs) (M := tbM29) rfl rfl ⟨trivial, trivial, o8, trivial⟩ ?_
    generalize hH7 : (e3_up H5 12 (H5 8 0) 0) = H7
    replace h := h H7 hH7.symm
    refine e3_K [0, 0, 2, 0, 0, 2] 61 [(2, 8), (1, l1), (3, 0)] [] (e3_up H7 8 0 (e3_w32 ((H7 8 0) + 1))) (G) (wZ L xs) (M := tbM29) rfl rfl ⟨trivial, trivial, trivial⟩ ?_
    generalize hH9 : (e3_up H7 8 0 (e3_w32 ((H7 8 0) + 1))) = H9
    replace h := h H9 hH9.symm
    refine e3_K [0, 2, 0, 0] 67 [(2, 8), (1, l1), (3, 0)] [(0, (e3_w32 ((H9 8 0) - 1)))] (H9) (G) (wZ L xs) (M := tbM29) rfl rfl ⟨trivial, trivial⟩ ?_
    exact e3_reti (M := tbM29) rfl rfl rfl ⟨_, rfl, h⟩
  · replace h := h.2 hc
    refine e3_K [0] 10 [(2, 8), (1, l1), (3, 0)] [(0, (-1))] (H) (G) (wZ L xs) (M := tbM29) rfl rfl trivial ?_
    exact e3_reti (M := tbM29) rfl rfl rfl ⟨_, rfl, h⟩
/-- LetterPost$Kinds.partCount(I)I -/
def wK_partCount_22 (Q : Int → e3_H → e3_G → Prop) (s0 : Int) (H : e3_H) (G : e3_G) : Prop :=
  Q s0 H G
def wK_partCount_21 (Q : Int → e3_H → e3_G → Prop)  (H : e3_H) (G : e3_G) : Prop :=
  (wK_partCount_22 Q 0 H G)
def wK_partCount (Q : Int → e3_H → e3_G → Prop) (l1 : Int) (H : e3_H) (G : e3_G) : Prop :=
  (((l1 : Int) < 0 → (wK_partCount_21 Q H G)) ∧ (¬ ((l1 : Int) < 0) → (((l1 : Int) < (H 8 0) → ((0 : Int) ≤ l1 ∧ (l1 : Int) < 24) ∧ (wK_partCount_22 Q (H 12 l1) H G)) ∧ (¬ ((l1 : Int) < (H 8 0)) → (wK_partCount_21 Q H G)))))
set_option maxRecDepth 100000 in
set_option maxHeartbeats 4000000 in
theorem sK_partCount_22 (L : Nat) (xs : Nat → Int32) (Q : Int → e3_H → e3_G → Prop) (s0 : Int) (H : e3_H) (G : e3_G) (h : wK_partCount_22 Q s0 H G) : e3_Ev (wB L xs) 0 0 31 22 [(3, 0), (3, 0)] [(0, s0)] H G (e3_q0 Q) := by
  unfold wK_partCount_22 at h
  exact e3_reti (M := tbM31) rfl rfl rfl ⟨_, rfl, h⟩
set_option maxRecDepth 100000 in
set_option maxHeartbeats 4000000 in
theorem sK_partCount_21 (L : Nat) (xs : Nat → Int32) (Q : Int → e3_H → e3_G → Prop)  (H : e3_H) (G : e3_G) (h : wK_partCount_21 Q  H G) : e3_Ev (wB L xs) 0 0 31 21 [(3, 0), (3, 0)] [] H G (e3_q0 Q) := by
  unfold wK_partCount_21 at h
  refine e3_K [0] 22 [(3, 0), (3, 0)] [(0, 0)] (H) (G) (wZ L xs) (M := tbM31) rfl rfl trivial ?_
  exact sK_partCount_22 L xs Q _ _ _ h
set_option maxRecDepth 100000 in
set_option maxHeartbeats 4000000 in
theorem sK_partCount (L : Nat) (xs : Nat → Int32) (Q : Int → e3_H → e3_G → Prop) (l1 : Int) (H : e3_H) (G : e3_G) (h : wK_partCount Q l1 H G) : e3_Ev (wB L xs) 0 0 31 0 [(2, 8), (0, l1)] [] H G (e3_q0 Q) := by
  unfold wK_partCount at h
  refine e3_K [0] 1 [(2, 8), (0, l1)] [(0, l1)] (H) (G) (wZ L xs) (M := tbM31) rfl rfl trivial ?_
  refine e3_br (M := tbM31) rfl rfl rfl Iff.rfl (fun hc => ?_) (fun hc => ?_)
  · replace h := h.1 hc
    refine e3_fgt [false, false] ?_
    exact sK_partCount_21 L xs Q _ _ h
  · replace h := h.2 hc
    refine e3_K [0, 0, 2] 9 [(2, 8), (0, l1)] [(0, (H 8 0)), (0, l1)] (H) (G) (wZ L xs) (M := tbM31) rfl rfl ⟨trivial, trivial⟩ ?_
    refine e3_br (M := tbM31) rfl rfl rfl Iff.rfl (fun hc => ?_) (fun hc => ?_)
    · replace h := h.1 hc
      obtain ⟨o1, h⟩ := h
      refine e3_K [0, 4, 0, 2, 0] 22 [(2, 8), (0, l1)] [(0, (H 12 l1))] (H) (G) (wZ L xs) (M := tbM31) rfl rfl ⟨trivial, o1, trivial⟩ ?_
      refine e3_fgt [false, false] ?_
      exact sK_partCount_22 L xs Q _ _ _ h
    · replace h := h.2 hc
      refine e3_fgt [false, false] ?_
      exact sK_partCount_21 L xs Q _ _ h
/-- LetterPost$Kinds.isSealed(I)Z -/
def wK_isSealed_26 (Q : Int → e3_H → e3_G → Prop) (s0 : Int) (H : e3_H) (G : e3_G) : Prop :=
  ((s0 : Int) = 0 ∨ s0 = 1) ∧ Q s0 H G
def wK_isSealed_25 (Q : Int → e3_H → e3_G → Prop)  (H : e3_H) (G : e3_G) : Prop :=
  (wK_isSealed_26 Q 0 H G)
def wK_isSealed (Q : Int → e3_H → e3_G → Prop) (l1 : Int) (H : e3_H) (G : e3_G) : Prop :=
  (((l1 : Int) < 0 → (wK_isSealed_25 Q H G)) ∧ (¬ ((l1 : Int) < 0) → (((l1 : Int) < (H 8 0) → ((0 : Int) ≤ l1 ∧ (l1 : Int) < 24) ∧ ((((H 11 l1) : Int) = 0 → (wK_isSealed_25 Q H G)) ∧ (¬ (((H 11 l1) : Int) = 0) → (wK_isSealed_26 Q 1 H G)))) ∧ (¬ ((l1 : Int) < (H 8 0)) → (wK_isSealed_25 Q H G)))))
set_option maxRecDepth 100000 in
set_option maxHeartbeats 4000000 in
theorem sK_isSealed_26 (L : Nat) (xs : Nat → Int32) (Q : Int → e3_H → e3_G → Prop) (s0 : Int) (H : e3_H) (G : e3_G) (h : wK_isSealed_26 Q s0 H G) : e3_Ev (wB L xs) 0 0 32 26 [(3, 0), (3, 0)] [(0, s0)] H G (e3_q0 Q) := by
  unfold wK_isSealed_26 at h
  exact e3_retb (M := tbM32) rfl rfl rfl h.1 ⟨_, rfl, h.2⟩
set_option maxRecDepth 100000 in
set_option maxHeartbeats 4000000 in
theorem sK_isSealed_25 (L : Nat) (xs : Nat → Int32) (Q : Int → e3_H → e3_G → Prop)  (H : e3_H) (G : e3_G) (h : wK_isSealed_25 Q  H G) : e3_Ev (wB L xs) 0 0 32 25 [(3, 0), (3, 0)] [] H G (e3_q0 Q) := by
  unfold wK_isSealed_25 at h
  refine e3_K [0] 26 [(3, 0), (3, 0)] [(0, 0)] (H) (G) (wZ L xs) (M := tbM32) rfl rfl trivial ?_
  exact sK_isSealed_26 L xs Q _ _ _ h
set_option maxRecDepth 100000 in
set_option maxHeartbeats 4000000 in
theorem sK_isSealed (L : Nat) (xs : Nat → Int32) (Q : Int → e3_H → e3_G → Prop) (l1 : Int) (H : e3_H) (G : e3_G) (h : wK_isSealed Q l1 H G) : e3_Ev (wB L xs) 0 0 32 0 [(2, 8), (0, l1)] [] H G (e3_q0 Q) := by
  unfold wK_isSealed at h
  refine e3_K [0] 1 [(2, 8), (0, l1)] [(0, l1)] (H) (G) (wZ L xs) (M := tbM32) rfl rfl trivial ?_
  refine e3_br (M := tbM32) rfl rfl rfl Iff.rfl (fun hc => ?_) (fun hc => ?_)
  · replace h := h.1 hc
    refine e3_fgt [false, false] ?_
    exact sK_isSealed_25 L xs Q _ _ h
  · replace h := h.2 hc
    refine e3_K [0, 0, 2] 9 [(2, 8), (0, l1)] [(0, (H 8 0)), (0, l1)] (H) (G) (wZ L xs) (M := tbM32) rfl rfl ⟨trivial, trivial⟩ ?_
    refine e3_br (M := tbM32) rfl rfl rfl Iff.rfl (fun hc => ?_) (fun hc => ?_)
    · replace h := h.1 hc
      obtain ⟨o1, h⟩ := h
      refine e3_K [0, 4, 0, 2] 18 [(2, 8), (0, l1)] [(0, (H 11 l1))] (H) (G) (wZ L xs) (M := tbM32) rfl rfl ⟨trivial, o1, trivial⟩ ?_
      refine e3_br (M := tbM32) rfl rfl rfl Iff.rfl (fun hc => ?_) (fun hc => ?_)
      · replace h := h.1 hc
        refine e3_fgt [false, false] ?_
        exact sK_isSealed_25 L xs Q _ _ h
      · replace h := h.2 hc
        refine e3_K [0, 0] 26 [(2, 8), (0, l1)] [(0, 1)] (H) (G) (wZ L xs) (M := tbM32) rfl rfl trivial ?_
        refine e3_fgt [false, false] ?_
        exact sK_isSealed_26 L xs Q _ _ _ h
    · replace h := h.2 hc
      refine e3_fgt [false, false] ?_
      exact sK_isSealed_25 L xs Q _ _ h
/-- LetterPost$Kinds.has(I)Z -/
def wK_has_17 (Q : Int → e3_H → e3_G → Prop) (s0 : Int) (H : e3_H) (G : e3_G) : Prop :=
  ((s0 : Int) = 0 ∨ s0 = 1) ∧ Q s0 H G
def wK_has_16 (Q : Int → e3_H → e3_G → Prop)  (H : e3_H) (G : e3_G) : Prop :=
  (wK_has_17 Q 0 H G)
def wK_has (Q : Int → e3_H → e3_G → Prop) (l1 : Int) (H : e3_H) (G : e3_G) : Prop :=
  (((l1 : Int) < 0 → (wK_has_16 Q H G)) ∧ (¬ ((l1 : Int) < 0) → (((l1 : Int) < (H 8 0) → (wK_has_17 Q 1 H G)) ∧ (¬ ((l1 : Int) < (H 8 0)) → (wK_has_16 Q H G)))))
set_option maxRecDepth 100000 in
set_option maxHeartbeats 4000000 in
theorem sK_has_17 (L : Nat) (xs : Nat → Int32) (Q : Int → e3_H → e3_G → Prop) (s0 : Int) (H : e3_H) (G : e3_G) (h : wK_has_17 Q s0 H G) : e3_Ev (wB L xs) 0 0 34 17 [(3, 0), (3, 0)] [(0, s0)] H G (e3_q0 Q) := by
  unfold wK_has_17 at h
  exact e3_retb (M := tbM34) rfl rfl rfl h.1 ⟨_, rfl, h.2⟩
set_option maxRecDepth 100000 in
set_option maxHeartbeats 4000000 in
theorem sK_has_16 (L : Nat) (xs : Nat → Int32) (Q : Int → e3_H → e3_G → Prop)  (H : e3_H) (G : e3_G) (h : wK_has_16 Q  H G) : e3_Ev (wB L xs) 0 0 34 16 [(3, 0), (3, 0)] [] H G (e3_q0 Q) := by
  unfold wK_has_16 at h
  refine e3_K [0] 17 [(3, 0), (3, 0)] [(0, 0)] (H) (G) (wZ L xs) (M := tbM34) rfl rfl trivial ?_
  exact sK_has_17 L xs Q _ _ _ h
set_option maxRecDepth 100000 in
set_option maxHeartbeats 4000000 in
theorem sK_has (L : Nat) (xs : Nat → Int32) (Q : Int → e3_H → e3_G → Prop) (l1 : Int) (H : e3_H) (G : e3_G) (h : wK_has Q l1 H G) : e3_Ev (wB L xs) 0 0 34 0 [(2, 8), (0, l1)] [] H G (e3_q0 Q) := by
  unfold wK_has at h
  refine e3_K [0] 1 [(2, 8), (0, l1)] [(0, l1)] (H) (G) (wZ L xs) (M := tbM34) rfl rfl trivial ?_
  refine e3_br (M := tbM34) rfl rfl rfl Iff.rfl (fun hc => ?_) (fun hc => ?_)
  · replace h := h.1 hc
    refine e3_fgt [false, false] ?_
    exact sK_has_16 L xs Q _ _ h
  · replace h := h.2 hc
    refine e3_K [0, 0, 2] 9 [(2, 8), (0, l1)] [(0, (H 8 0)), (0, l1)] (H) (G) (wZ L xs) (M := tbM34) rfl rfl ⟨trivial, trivial⟩ ?_
    refine e3_br (M := tbM34) rfl rfl rfl Iff.rfl (fun hc => ?_) (fun hc => ?_)
    · replace h := h.1 hc
      refine e3_K [0, 0] 17 [(2, 8), (0, l1)] [(0, 1)] (H) (G) (wZ L xs) (M := tbM34) rfl rfl trivial ?_
      refine e3_fgt [false, false] ?_
      exact sK_has_17 L xs Q _ _ _ h
    · replace h := h.2 hc
      refine e3_fgt [false, false] ?_
      exact sK_has_16 L xs Q _ _ h
/-- LetterPost$Kinds.putUnder(II)V -/
def wK_putUnder_30 (Q : e3_H → e3_G → Prop)  (H : e3_H) (G : e3_G) : Prop :=
  Q H G
def wK_putUnder (Q : e3_H → e3_G → Prop) (l1 : Int) (l2 : Int) (H : e3_H) (G : e3_G) : Prop :=
  (wK_has (fun x3 H1 G2 => (((x3 : Int) = 0 → (wK_putUnder_30 Q H1 G2)) ∧ (¬ ((x3 : Int) = 0) → (wK_has (fun x6 H4 G5 => (((x6 : Int) = 0 → (wK_putUnder_30 Q H4 G5)) ∧ (¬ ((x6 : Int) = 0) → ((0 : Int) ≤ l1 ∧ (l1 : Int) < 24) ∧ ∀ H7 : e3_H, H7 = e3_up H4 10 l1 l2 → ((0 : Int) ≤ l2 ∧ (l2 : Int) < 24) ∧ ∀ H9 : e3_H, H9 = e3_up H7 11 l2 (e3_and 1 1) → (wK_putUnder_30 Q H9 G5)))) l2 H1 G2)))) l1 H G)
set_option maxRecDepth 100000 in
set_option maxHeartbeats 4000000 in
theorem sK_putUnder_30 (L : Nat) (xs : Nat → Int32) (Q : e3_H → e3_G → Prop)  (H : e3_H) (G : e3_G) (h : wK_putUnder_30 Q  H G) : e3_Ev (wB L xs) 1 21 33 30 [(3, 0), (3, 0), (3, 0)] [] H G (e3_qv Q) := by
  unfold wK_putUnder_30 at h
  exact e3_retv (M := tbM33) rfl rfl rfl ⟨rfl, h⟩
set_option maxRecDepth 100000 in
set_option maxHeartbeats 4000000 in
theorem sK_putUnder (L : Nat) (xs : Nat → Int32) (Q : e3_H → e3_G → Prop) (l1 : Int) (l2 : Int) (H : e3_H) (G : e3_G) (h : wK_putUnder Q l1 l2 H G) : e3_Ev (wB L xs) 1 21 33 0 [(2, 8), (0, l1), (0, l2)] [] H G (e3_qv Q) := by
  unfold wK_putUnder at h
  refine e3_K [0, 0] 2 [(2, 8), (0, l1), (0, l2)] [(0, l1), (2, 8)] (H) (G) (wZ L xs) (M := tbM33) rfl rfl trivial ?_
  refine e3_call (o := 0) (k := 34) (M2 := tbM34) (f1 := 0) (w1 := 0) (as := [(2, 8), (0, l1)]) (rest := []) (M := tbM33) rfl rfl rfl trivial (Nat.le_of_ble_eq_true rfl) (Nat.le_of_ble_eq_true rfl) (Nat.le_of_ble_eq_true rfl) ?_
  refine e3_mono (sK_has L xs _ _ _ _ h) (fun r H1 G2 h => ?_)
  obtain ⟨x3, rfl, h⟩ := h
  change e3_Ev _ _ _ _ 5 [(2, 8), (0, l1), (0, l2)] [(0, x3)] H1 G2 _
  refine e3_br (M := tbM33) rfl rfl rfl Iff.rfl (fun hc => ?_) (fun hc => ?_)
  · replace h := h.1 hc
    refine e3_fgt [false, false, false] ?_
    exact sK_putUnder_30 L xs Q _ _ h
  · replace h := h.2 hc
    refine e3_K [0, 0] 10 [(2, 8), (0, l1), (0, l2)] [(0, l2), (2, 8)] (H1) (G2) (wZ L xs) (M := tbM33) rfl rfl trivial ?_
    refine e3_call (o := 0) (k := 34) (M2 := tbM34) (f1 := 0) (w1 := 0) (as := [(2, 8), (0, l2)]) (rest := []) (M := tbM33) rfl rfl rfl trivial (Nat.le_of_ble_eq_true rfl) (Nat.le_of_ble_eq_true rfl) (Nat.le_of_ble_eq_true rfl) ?_
    refine e3_mono (sK_has L xs _ _ _ _ h) (fun r H4 G5 h => ?_)
    obtain ⟨x6, rfl, h⟩ := h
    change e3_Ev _ _ _ _ 13 [(2, 8), (0, l1), (0, l2)] [(0, x6)] H4 G5 _
    refine e3_br (M := tbM33) rfl rfl rfl Iff.rfl (fun hc => ?_) (fun hc => ?_)
    · replace h := h.1 hc
      refine e3_fgt [false, false, false] ?_
      exact sK_putUnder_30 L xs Q _ _ h
    · replace h := h.2 hc
      obtain ⟨o8, h⟩ := h
      refine e3_K [0, 4, 0, 0, 2] 23 [(2, 8), (0, l1), (0, l2)] [] (e3_up H4 10 l1 l2) (G5) (wZ L xs) (M := tbM33) rfl rfl ⟨trivial, o8, trivial⟩ ?_
      generalize hH7 : (e3_up H4 10 l1 l2) = H7
      replace h := h H7 hH7.symm
      obtain ⟨o10, h⟩ := h
      refine e3_K [0, 4, 0, 0, 2] 30 [(2, 8), (0, l1), (0, l2)] [] (e3_up H7 11 l2 (e3_and 1 1)) (G5) (wZ L xs) (M := tbM33) rfl rfl ⟨trivial, o10, trivial⟩ ?_
      generalize hH9 : (e3_up H7 11 l2 (e3_and 1 1)) = H9
      replace h := h H9 hH9.symm
      refine e3_fgt [false, false, false] ?_
      exact sK_putUnder_30 L xs Q _ _ h
/-- LetterPost$Reader.readUnder(IZ)Z -/
def wR_readUnder_50 (Q : Int → e3_H → e3_G → Prop)  (H : e3_H) (G : e3_G) : Prop :=
  (wR_failHere (fun x3 H1 G2 => ((x3 : Int) = 0 ∨ x3 = 1) ∧ Q x3 H1 G2) 4 H G)
def wR_readUnder_82 (Q : Int → e3_H → e3_G → Prop)  (H : e3_H) (G : e3_G) : Prop :=
  (wR_failHere (fun x3 H1 G2 => ((x3 : Int) = 0 ∨ x3 = 1) ∧ Q x3 H1 G2) 5 H G)
def wR_readUnder_88 (Q : Int → e3_H → e3_G → Prop) (l1 : Int) (l3 : Int) (H : e3_H) (G : e3_G) : Prop :=
  (wK_putUnder (fun H1 G2 => (wT_step (fun H4 G5 => Q 1 H4 G5) H1 G2)) l1 l3 H G)
def wR_readUnder (Q : Int → e3_H → e3_G → Prop) (l1 : Int) (l2 : Int) (H : e3_H) (G : e3_G) : Prop :=
  (wT_step (fun H1 G2 => ((((H1 3 7) : Int) = 259 → (wK_find (fun x6 H4 G5 => (((x6 : Int) < 0 → (wR_readUnder_50 Q H4 G5)) ∧ (¬ ((x6 : Int) < 0) → (((x6 : Int) = l1 → (wR_readUnder_50 Q H4 G5)) ∧ (¬ ((x6 : Int) = l1) → (wK_partCount (fun x9 H7 G8 => (((0 : Int) < x9 → (wR_readUnder_82 Q H7 G8)) ∧ (¬ ((0 : Int) < x9) → (((l2 : Int) = 0 → (wR_readUnder_88 Q l1 x6 H7 G8)) ∧ (¬ ((l2 : Int) = 0) → (wK_isSealed (fun x12 H10 G11 => (((x12 : Int) = 0 → (wR_readUnder_82 Q H10 G11)) ∧ (¬ ((x12 : Int) = 0) → (wR_readUnder_88 Q l1 x6 H10 G11)))) x6 H7 G8)))))) x6 H4 G5)))))) (H1 3 9) H1 G2)) ∧ (¬ (((H1 3 7) : Int) = 259) → (wR_failHere (fun x15 H13 G14 => ((x15 : Int) = 0 ∨ x15 = 1) ∧ Q x15 H13 G14) 2 H1 G2)))) H G)
set_option maxRecDepth 100000 in
set_option maxHeartbeats 4000000 in
theorem sR_readUnder_50 (L : Nat) (xs : Nat → Int32) (Q : Int → e3_H → e3_G → Prop)  (H : e3_H) (G : e3_G) (h : wR_readUnder_50 Q  H G) : e3_Ev (wB L xs) 2 43 30 50 [(2, 14), (3, 0), (3, 0), (3, 0)] [] H G (e3_q0 Q) := by
  unfold wR_readUnder_50 at h
  refine e3_K [0, 0] 52 [(2, 14), (3, 0), (3, 0), (3, 0)] [(0, 4), (2, 14)] (H) (G) (wZ L xs) (M := tbM30) rfl rfl trivial ?_
  refine e3_call (o := 0) (k := 27) (M2 := tbM27) (f1 := 0) (w1 := 0) (as := [(2, 14), (0, 4)]) (rest := []) (M := tbM30) rfl rfl rfl trivial (Nat.le_of_ble_eq_true rfl) (Nat.le_of_ble_eq_true rfl) (Nat.le_of_ble_eq_true rfl) ?_
  refine e3_mono (sR_failHere L xs _ _ _ _ h) (fun r H1 G2 h => ?_)
  obtain ⟨x3, rfl, h⟩ := h
  change e3_Ev _ _ _ _ 55 [(2, 14), (3, 0), (3, 0), (3, 0)] [(0, x3)] H1 G2 _
  exact e3_retb (M := tbM30) rfl rfl rfl h.1 ⟨_, rfl, h.2⟩
set_option maxRecDepth 100000 in
set_option maxHeartbeats 4000000 in
theorem sR_readUnder_82 (L : Nat) (xs : Nat → Int32) (Q : Int → e3_H → e3_G → Prop)  (H : e3_H) (G : e3_G) (h : wR_readUnder_82 Q  H G) : e3_Ev (wB L xs) 2 43 30 82 [(2, 14), (3, 0), (3, 0), (3, 0)] [] H G (e3_q0 Q) := by
  unfold wR_readUnder_82 at h
  refine e3_K [0, 0] 84 [(2, 14), (3, 0), (3, 0), (3, 0)] [(0, 5), (2, 14)] (H) (G) (wZ L xs) (M := tbM30) rfl rfl trivial ?_
  refine e3_call (o := 0) (k := 27) (M2 := tbM27) (f1 := 0) (w1 := 0) (as := [(2, 14), (0, 5)]) (rest := []) (M := tbM30) rfl rfl rfl trivial (Nat.le_of_ble_eq_true rfl) (Nat.le_of_ble_eq_true rfl) (Nat.le_of_ble_eq_true rfl) ?_
  refine e3_mono (sR_failHere L xs _ _ _ _ h) (fun r H1 G2 h => ?_)
  obtain ⟨x3, rfl, h⟩ := h
  change e3_Ev _ _ _ _ 87 [(2, 14), (3, 0), (3, 0), (3, 0)] [(0, x3)] H1 G2 _
  exact e3_retb (M := tbM30) rfl rfl rfl h.1 ⟨_, rfl, h.2⟩
set_option maxRecDepth 100000 in
set_option maxHeartbeats 4000000 in
theorem sR_readUnder_88 (L : Nat) (xs : Nat → Int32) (Q : Int → e3_H → e3_G → Prop) (l1 : Int) (l3 : Int) (H : e3_H) (G : e3_G) (h : wR_readUnder_88 Q l1 l3 H G) : e3_Ev (wB L xs) 2 43 30 88 [(2, 14), (0, l1), (3, 0), (0, l3)] [] H G (e3_q0 Q) := by
  unfold wR_readUnder_88 at h
  refine e3_K [0, 4, 0, 0] 94 [(2, 14), (0, l1), (3, 0), (0, l3)] [(0, l3), (0, l1), (2, 8)] (H) (G) (wZ L xs) (M := tbM30) rfl rfl ⟨trivial, trivial⟩ ?_
  refine e3_call (o := 0) (k := 33) (M2 := tbM33) (f1 := 1) (w1 := 21) (as := [(2, 8), (0, l1), (0, l3)]) (rest := []) (M := tbM30) rfl rfl rfl trivial (Nat.le_of_ble_eq_true rfl) (Nat.le_of_ble_eq_true rfl) (Nat.le_of_ble_eq_true rfl) ?_
  refine e3_mono (sK_putUnder L xs _ _ _ _ _ h) (fun r H1 G2 h => ?_)
  obtain ⟨rfl, h⟩ := h
  change e3_Ev _ _ _ _ 97 [(2, 14), (0, l1), (3, 0), (0, l3)] [] H1 G2 _
  refine e3_K [0, 4] 101 [(2, 14), (0, l1), (3, 0), (0, l3)] [(2, 3)] (H1) (G2) (wZ L xs) (M := tbM30) rfl rfl ⟨trivial, trivial⟩ ?_
  refine e3_call (o := 0) (k := 25) (M2 := tbM25) (f1 := 0) (w1 := 0) (as := [(2, 3)]) (rest := []) (M := tbM30) rfl rfl rfl trivial (Nat.le_of_ble_eq_true rfl) (Nat.le_of_ble_eq_true rfl) (Nat.le_of_ble_eq_true rfl) ?_
  refine e3_mono (sT_step L xs _ _ _ h) (fun r H4 G5 h => ?_)
  obtain ⟨rfl, h⟩ := h
  change e3_Ev _ _ _ _ 104 [(2, 14), (0, l1), (3, 0), (0, l3)] [] H4 G5 _
  refine e3_K [0] 105 [(2, 14), (0, l1), (3, 0), (0, l3)] [(0, 1)] (H4) (G5) (wZ L xs) (M := tbM30) rfl rfl trivial ?_
  exact e3_retb (M := tbM30) rfl rfl rfl (Or.inr rfl) ⟨_, rfl, h⟩
set_option maxRecDepth 100000 in
set_option maxHeartbeats 4000000 in
theorem sR_readUnder (L : Nat) (xs : Nat → Int32) (Q : Int → e3_H → e3_G → Prop) (l1 : Int) (l2 : Int) (H : e3_H) (G : e3_G) (h : wR_readUnder Q l1 l2 H G) : e3_Ev (wB L xs) 2 43 30 0 [(2, 14), (0, l1), (0, l2), (3, 0)] [] H G (e3_q0 Q) := by
  unfold wR_readUnder at h
  refine e3_K [0, 4] 4 [(2, 14), (0, l1), (0, l2), (3, 0)] [(2, 3)] (H) (G) (wZ L xs) (M := tbM30) rfl rfl ⟨trivial, trivial⟩ ?_
  refine e3_call (o := 0) (k := 25) (M2 := tbM25) (f1 := 0) (w1 := 0) (as := [(2, 3)]) (rest := []) (M := tbM30) rfl rfl rfl trivial (Nat.le_of_ble_eq_true rfl) (Nat.le_of_ble_eq_true rfl) (Nat.le_of_ble_eq_true rfl) ?_
  refine e3_mono (sT_step L xs _ _ _ h) (fun r H1 G2 h => ?_)
  obtain ⟨rfl, h⟩ := h
  change e3_Ev _ _ _ _ 7 [(2, 14), (0, l1), (0, l2), (3, 0)] [] H1 G2 _
  refine e3_K [0, 4, 2, 0] 17 [(2, 14), (0, l1), (0, l2), (3, 0)] [(0, 259), (0, (H1 3 7))] (H1) (G2) (wZ L xs) (M := tbM30) rfl rfl ⟨trivial, trivial, trivial⟩ ?_
  refine e3_br (M := tbM30) rfl rfl rfl Iff.rfl (fun hc => ?_) (fun hc => ?_)
  · replace h := h.1 hc
    refine e3_K [0, 4, 0, 4, 2] 37 [(2, 14), (0, l1), (0, l2), (3, 0)] [(1, (H1 3 9)), (2, 8)] (H1) (G2) (wZ L xs) (M := tbM30) rfl rfl ⟨trivial, trivial, trivial, trivial⟩ ?_
    refine e3_call (o := 0) (k := 28) (M2 := tbM28) (f1 := 0) (w1 := 0) (as := [(2, 8), (1, (H1 3 9))]) (rest := []) (M := tbM30) rfl rfl rfl trivial (Nat.le_of_ble_eq_true rfl) (Nat.le_of_ble_eq_true rfl) (Nat.le_of_ble_eq_true rfl) ?_
    refine e3_mono (sK_find L xs _ _ _ _ h) (fun r H4 G5 h => ?_)
    obtain ⟨x6, rfl, h⟩ := h
    change e3_Ev _ _ _ _ 40 [(2, 14), (0, l1), (0, l2), (3, 0)] [(0, x6)] H4 G5 _
    refine e3_K [0, 0] 42 [(2, 14), (0, l1), (0, l2), (0, x6)] [(0, x6)] (H4) (G5) (wZ L xs) (M := tbM30) rfl rfl trivial ?_
    refine e3_br (M := tbM30) rfl rfl rfl Iff.rfl (fun hc => ?_) (fun hc => ?_)
    · replace h := h.1 hc
      refine e3_fgt [true, false, false, false] ?_
      exact sR_readUnder_50 L xs Q _ _ h
    · replace h := h.2 hc
      refine e3_K [0, 0] 47 [(2, 14), (0, l1), (0, l2), (0, x6)] [(0, l1), (0, x6)] (H4) (G5) (wZ L xs) (M := tbM30) rfl rfl trivial ?_
      refine e3_br (M := tbM30) rfl rfl rfl Iff.rfl (fun hc => ?_) (fun hc => ?_)
      · replace h := h.1 hc
        refine e3_fgt [true, false, false, false] ?_
        exact sR_readUnder_50 L xs Q _ _ h
      · replace h := h.2 hc
        refine e3_K [0, 4, 0] 61 [(2, 14), (0, l1), (0, l2), (0, x6)] [(0, x6), (2, 8)] (H4) (G5) (wZ L xs) (M := tbM30) rfl rfl ⟨trivial, trivial⟩ ?_
        refine e3_call (o := 0) (k := 31) (M2 := tbM31) (f1 := 0) (w1 := 0) (as := [(2, 8), (0, x6)]) (rest := []) (M := tbM30) rfl rfl rfl trivial (Nat.le_of_ble_eq_true rfl) (Nat.le_of_ble_eq_true rfl) (Nat.le_of_ble_eq_true rfl) ?_
        refine e3_mono (sK_partCount L xs _ _ _ _ h) (fun r H7 G8 h => ?_)
        obtain ⟨x9, rfl, h⟩ := h
        change e3_Ev _ _ _ _ 64 [(2, 14), (0, l1), (0, l2), (0, x6)] [(0, x9)] H7 G8 _
        refine e3_br (M := tbM30) rfl rfl rfl Iff.rfl (fun hc => ?_) (fun hc => ?_)
        · replace h := h.1 hc
          refine e3_fgt [true, false, false, false] ?_
          exact sR_readUnder_82 L xs Q _ _ h
        · replace h := h.2 hc
          refine e3_K [0] 68 [(2, 14), (0, l1), (0, l2), (0, x6)] [(0, l2)] (H7) (G8) (wZ L xs) (M := tbM30) rfl rfl trivial ?_
          refine e3_br (M := tbM30) rfl rfl rfl Iff.rfl (fun hc => ?_) (fun hc => ?_)
          · replace h := h.1 hc
            refine e3_fgt [true, true, false, true] ?_
            exact sR_readUnder_88 L xs Q _ _ _ _ h
          · replace h := h.2 hc
            refine e3_K [0, 4, 0] 76 [(2, 14), (0, l1), (0, l2), (0, x6)] [(0, x6), (2, 8)] (H7) (G8) (wZ L xs) (M := tbM30) rfl rfl ⟨trivial, trivial⟩ ?_
            refine e3_call (o := 0) (k := 32) (M2 := tbM32) (f1 := 0) (w1 := 0) (as := [(2, 8), (0, x6)]) (rest := []) (M := tbM30) rfl rfl rfl trivial (Nat.le_of_ble_eq_true rfl) (Nat.le_of_ble_eq_true rfl) (Nat.le_of_ble_eq_true rfl) ?_
            refine e3_mono (sK_isSealed L xs _ _ _ _ h) (fun r H10 G11 h => ?_)
            obtain ⟨x12, rfl, h⟩ := h
            change e3_Ev _ _ _ _ 79 [(2, 14), (0, l1), (0, l2), (0, x6)] [(0, x12)] H10 G11 _
            refine e3_br (M := tbM30) rfl rfl rfl Iff.rfl (fun hc => ?_) (fun hc => ?_)
            · replace h := h.1 hc
              refine e3_fgt [true, false, false, false] ?_
              exact sR_readUnder_82 L xs Q _ _ h
            · replace h := h.2 hc
              refine e3_fgt [true, true, false, true] ?_
              exact sR_readUnder_88 L xs Q _ _ _ _ h
  · replace h := h.2 hc
    refine e3_K [0, 0] 22 [(2, 14), (0, l1), (0, l2), (3, 0)] [(0, 2), (2, 14)] (H1) (G2) (wZ L xs) (M := tbM30) rfl rfl trivial ?_
    refine e3_call (o := 0) (k := 27) (M2 := tbM27) (f1 := 0) (w1 := 0) (as := [(2, 14), (0, 2)]) (rest := []) (M := tbM30) rfl rfl rfl trivial (Nat.le_of_ble_eq_true rfl) (Nat.le_of_ble_eq_true rfl) (Nat.le_of_ble_eq_true rfl) ?_
    refine e3_mono (sR_failHere L xs _ _ _ _ h) (fun r H13 G14 h => ?_)
    obtain ⟨x15, rfl, h⟩ := h
    change e3_Ev _ _ _ _ 25 [(2, 14), (0, l1), (0, l2), (3, 0)] [(0, x15)] H13 G14 _
    exact e3_retb (M := tbM30) rfl rfl rfl h.1 ⟨_, rfl, h.2⟩
/-- LetterPost$Reader.sortHere()I -/
def wR_sortHere (Q : Int → e3_H → e3_G → Prop)  (H : e3_H) (G : e3_G) : Prop :=
  ((((H 3 7) : Int) = 259 → (wK_find (fun x3 H1 G2 => (((x3 : Int) < 0 → (wR_failHere (fun x6 H4 G5 => Q (-1) H4 G5) 4 H1 G2)) ∧ (¬ ((x3 : Int) < 0) → Q (e3_w32 (3 + x3)) H1 G2))) (H 3 9) H G)) ∧ (((H 3 7) : Int) = 275 → Q 0 H G) ∧ (((H 3 7) : Int) = 276 → Q 1 H G) ∧ (((H 3 7) : Int) = 277 → Q 2 H G) ∧ (¬ ((H 3 7) : Int) = 259 ∧ ¬ ((H 3 7) : Int) = 275 ∧ ¬ ((H 3 7) : Int) = 276 ∧ ¬ ((H 3 7) : Int) = 277 → (wR_failHere (fun x9 H7 G8 => Q (-1) H7 G8) 2 H G)))
set_option maxRecDepth 100000 in
set_option maxHeartbeats 4000000 in
theorem sR_sortHere (L : Nat) (xs : Nat → Int32) (Q : Int → e3_H → e3_G → Prop)  (H : e3_H) (G : e3_G) (h : wR_sortHere Q  H G) : e3_Ev (wB L xs) 1 23 36 0 [(2, 14), (3, 0)] [] H G (e3_q0 Q) := by
  unfold wR_sortHere at h
  refine e3_K [0, 4, 2] 7 [(2, 14), (3, 0)] [(0, (H 3 7))] (H) (G) (wZ L xs) (M := tbM36) rfl rfl ⟨trivial, trivial, trivial⟩ ?_
  by_cases hc0 : ((H 3 7) : Int) = 259
  · replace h := h.1 hc0
    refine e3_sw (M := tbM36) rfl rfl hc0 rfl ?_
    refine e3_K [0, 4, 0, 4, 2] 65 [(2, 14), (3, 0)] [(1, (H 3 9)), (2, 8)] (H) (G) (wZ L xs) (M := tbM36) rfl rfl ⟨trivial, trivial, trivial, trivial⟩ ?_
    refine e3_call (o := 0) (k := 28) (M2 := tbM28) (f1 := 0) (w1 := 0) (as := [(2, 8), (1, (H 3 9))]) (rest := []) (M := tbM36) rfl rfl rfl trivial (Nat.le_of_ble_eq_true rfl) (Nat.le_of_ble_eq_true rfl) (Nat.le_of_ble_eq_true rfl) ?_
    refine e3_mono (sK_find L xs _ _ _ _ h) (fun r H1 G2 h => ?_)
    obtain ⟨x3, rfl, h⟩ := h
    change e3_Ev _ _ _ _ 68 [(2, 14), (3, 0)] [(0, x3)] H1 G2 _
    refine e3_K [0, 0] 70 [(2, 14), (0, x3)] [(0, x3)] (H1) (G2) (wZ L xs) (M := tbM36) rfl rfl trivial ?_
    refine e3_br (M := tbM36) rfl rfl rfl Iff.rfl (fun hc => ?_) (fun hc => ?_)
    · replace h := h.1 hc
      refine e3_K [0, 0] 79 [(2, 14), (0, x3)] [(0, 4), (2, 14)] (H1) (G2) (wZ L xs) (M := tbM36) rfl rfl trivial ?_
      refine e3_call (o := 0) (k := 27) (M2 := tbM27) (f1 := 0) (w1 := 0) (as := [(2, 14), (0, 4)]) (rest := []) (M := tbM36) rfl rfl rfl trivial (Nat.le_of_ble_eq_true rfl) (Nat.le_of_ble_eq_true rfl) (Nat.le_of_ble_eq_true rfl) ?_
      refine e3_mono (sR_failHere L xs _ _ _ _ h) (fun r H4 G5 h => ?_)
      obtain ⟨x6, rfl, h⟩ := h
      change e3_Ev _ _ _ _ 82 [(2, 14), (0, x3)] [(0, x6)] H4 G5 _
      refine e3_K [0, 0] 84 [(2, 14), (0, x3)] [(0, (-1))] (H4) (G5) (wZ L xs) (M := tbM36) rfl rfl trivial ?_
      exact e3_reti (M := tbM36) rfl rfl rfl ⟨_, rfl, h⟩
    · replace h := h.2 hc
      refine e3_K [0, 0, 0] 76 [(2, 14), (0, x3)] [(0, (e3_w32 (3 + x3)))] (H1) (G2) (wZ L xs) (M := tbM36) rfl rfl trivial ?_
      exact e3_reti (M := tbM36) rfl rfl rfl ⟨_, rfl, h⟩
  replace h := h.2
  by_cases hc1 : ((H 3 7) : Int) = 275
  · replace h := h.1 hc1
    refine e3_sw (M := tbM36) rfl rfl hc1 rfl ?_
    refine e3_K [0] 49 [(2, 14), (3, 0)] [(0, 0)] (H) (G) (wZ L xs) (M := tbM36) rfl rfl trivial ?_
    exact e3_reti (M := tbM36) rfl rfl rfl ⟨_, rfl, h⟩
  replace h := h.2
  by_cases hc2 : ((H 3 7) : Int) = 276
  · replace h := h.1 hc2
    refine e3_sw (M := tbM36) rfl rfl hc2 rfl ?_
    refine e3_K [0] 51 [(2, 14), (3, 0)] [(0, 1)] (H) (G) (wZ L xs) (M := tbM36) rfl rfl trivial ?_
    exact e3_reti (M := tbM36) rfl rfl rfl ⟨_, rfl, h⟩
  replace h := h.2
  by_cases hc3 : ((H 3 7) : Int) = 277
  · replace h := h.1 hc3
    refine e3_sw (M := tbM36) rfl rfl hc3 rfl ?_
    refine e3_K [0] 53 [(2, 14), (3, 0)] [(0, 2)] (H) (G) (wZ L xs) (M := tbM36) rfl rfl trivial ?_
    exact e3_reti (M := tbM36) rfl rfl rfl ⟨_, rfl, h⟩
  replace h := h.2
  replace h := h ⟨hc0, hc1, hc2, hc3⟩
  refine e3_sw (M := tbM36) rfl rfl rfl ((e3_swdl rfl (fun q hq => (by
      have hq : q ∈ ([(259, 47), (275, 41), (276, 43), (277, 45)] : List (Int × Int)) := hq
      simp only [List.mem_cons, List.not_mem_nil, or_false] at hq
      rcases hq with rfl | rfl | rfl | rfl
      all_goals (intro hz; simp only at hz; omega)))).trans rfl) ?_
  refine e3_K [0, 0] 87 [(2, 14), (3, 0)] [(0, 2), (2, 14)] (H) (G) (wZ L xs) (M := tbM36) rfl rfl trivial ?_
  refine e3_call (o := 0) (k := 27) (M2 := tbM27) (f1 := 0) (w1 := 0) (as := [(2, 14), (0, 2)]) (rest := []) (M := tbM36) rfl rfl rfl trivial (Nat.le_of_ble_eq_true rfl) (Nat.le_of_ble_eq_true rfl) (Nat.le_of_ble_eq_true rfl) ?_
  refine e3_mono (sR_failHere L xs _ _ _ _ h) (fun r H7 G8 h => ?_)
  obtain ⟨x9, rfl, h⟩ := h
  change e3_Ev _ _ _ _ 90 [(2, 14), (3, 0)] [(0, x9)] H7 G8 _
  refine e3_K [0, 0] 92 [(2, 14), (3, 0)] [(0, (-1))] (H7) (G8) (wZ L xs) (M := tbM36) rfl rfl trivial ?_
  exact e3_reti (M := tbM36) rfl rfl rfl ⟨_, rfl, h⟩
/-- LetterPost$Kinds.addPart(II)V -/
def wK_addPart_44 (Q : e3_H → e3_G → Prop)  (H : e3_H) (G : e3_G) : Prop :=
  Q H G
def wK_addPart (Q : e3_H → e3_G → Prop) (l1 : Int) (l2 : Int) (H : e3_H) (G : e3_G) : Prop :=
  (wK_has (fun x3 H1 G2 => (((x3 : Int) = 0 → (wK_addPart_44 Q H1 G2)) ∧ (¬ ((x3 : Int) = 0) → ((0 : Int) ≤ l1 ∧ (l1 : Int) < 24) ∧ ((((H1 12 l1) : Int) < 4 → ((0 : Int) ≤ l1 ∧ (l1 : Int) < 24) ∧ ((0 : Int) ≤ (e3_w32 ((e3_w32 (l1 * 4)) + (H1 12 l1))) ∧ ((e3_w32 ((e3_w32 (l1 * 4)) + (H1 12 l1))) : Int) < 96) ∧ ∀ H5 : e3_H, H5 = e3_up H1 13 (e3_w32 ((e3_w32 (l1 * 4)) + (H1 12 l1))) l2 → ((0 : Int) ≤ l1 ∧ (l1 : Int) < 24) ∧ ((0 : Int) ≤ l1 ∧ (l1 : Int) < 24) ∧ ∀ H8 : e3_H, H8 = e3_up H5 12 l1 (e3_w32 ((H5 12 l1) + 1)) → (wK_addPart_44 Q H8 G2)) ∧ (¬ (((H1 12 l1) : Int) < 4) → (wK_addPart_44 Q H1 G2)))))) l1 H G)
set_option maxRecDepth 100000 in
set_option maxHeartbeats 4000000 in
theorem sK_addPart_44 (L : Nat) (xs : Nat → Int32) (Q : e3_H → e3_G → Prop)  (H : e3_H) (G : e3_G) (h : wK_addPart_44 Q  H G) : e3_Ev (wB L xs) 1 21 37 44 [(3, 0), (3, 0), (3, 0)] [] H G (e3_qv Q) := by
  unfold wK_addPart_44 at h
  exact e3_retv (M := tbM37) rfl rfl rfl ⟨rfl, h⟩
set_option maxRecDepth 100000 in
set_option maxHeartbeats 4000000 in
theorem sK_addPart (L : Nat) (xs : Nat → Int32) (Q : e3_H → e3_G → Prop) (l1 : Int) (l2 : Int) (H : e3_H) (G : e3_G) (h : wK_addPart Q l1 l2 H G) : e3_Ev (wB L xs) 1 21 37 0 [(2, 8), (0, l1), (0, l2)] [] H G (e3_qv Q) := by
  unfold wK_addPart at h
  refine e3_K [0, 0] 2 [(2, 8), (0, l1), (0, l2)] [(0, l1), (2, 8)] (H) (G) (wZ L xs) (M := tbM37) rfl rfl trivial ?_
  refine e3_call (o := 0) (k := 34) (M2 := tbM34) (f1 := 0) (w1 := 0) (as := [(2, 8), (0, l1)]) (rest := []) (M := tbM37) rfl rfl rfl trivial (Nat.le_of_ble_eq_true rfl) (Nat.le_of_ble_eq_true rfl) (Nat.le_of_ble_eq_true rfl) ?_
  refine e3_mono (sK_has L xs _ _ _ _ h) (fun r H1 G2 h => ?_)
  obtain ⟨x3, rfl, h⟩ := h
  change e3_Ev _ _ _ _ 5 [(2, 8), (0, l1), (0, l2)] [(0, x3)] H1 G2 _
  refine e3_br (M := tbM37) rfl rfl rfl Iff.rfl (fun hc => ?_) (fun hc => ?_)
  · replace h := h.1 hc
    refine e3_fgt [false, false, false] ?_
    exact sK_addPart_44 L xs Q _ _ h
  · replace h := h.2 hc
    obtain ⟨o4, h⟩ := h
    refine e3_K [0, 4, 0, 2, 0] 15 [(2, 8), (0, l1), (0, l2)] [(0, 4), (0, (H1 12 l1))] (H1) (G2) (wZ L xs) (M := tbM37) rfl rfl ⟨trivial, o4, trivial⟩ ?_
    refine e3_br (M := tbM37) rfl rfl rfl Iff.rfl (fun hc => ?_) (fun hc => ?_)
    · replace h := h.1 hc
      obtain ⟨o6, o7, h⟩ := h
      refine e3_K [0, 4, 0, 0, 0, 0, 4, 0, 2, 0, 0, 2] 34 [(2, 8), (0, l1), (0, l2)] [] (e3_up H1 13 (e3_w32 ((e3_w32 (l1 * 4)) + (H1 12 l1))) l2) (G2) (wZ L xs) (M := tbM37) rfl rfl ⟨trivial, trivial, o6, o7, trivial⟩ ?_
      generalize hH5 : (e3_up H1 13 (e3_w32 ((e3_w32 (l1 * 4)) + (H1 12 l1))) l2) = H5
      replace h := h H5 hH5.symm
      obtain ⟨o9, o10, h⟩ := h
      refine e3_K [0, 4, 0, 0, 2, 0, 0, 2] 44 [(2, 8), (0, l1), (0, l2)] [] (e3_up H5 12 l1 (e3_w32 ((H5 12 l1) + 1))) (G2) (wZ L xs) (M := tbM37) rfl rfl ⟨trivial, o9, o10, trivial⟩ ?_
      generalize hH8 : (e3_up H5 12 l1 (e3_w32 ((H5 12 l1) + 1))) = H8
      replace h := h H8 hH8.symm
      refine e3_fgt [false, false, false] ?_
      exact sK_addPart_44 L xs Q _ _ h
    · replace h := h.2 hc
      refine e3_fgt [false, false, false] ?_
      exact sK_addPart_44 L xs Q _ _ h
/-- LetterPost$Reader.expect(I)Z -/
def wR_expect (Q : Int → e3_H → e3_G → Prop) (l1 : Int) (H : e3_H) (G : e3_G) : Prop :=
  ((((H 3 7) : Int) = l1 → (wT_step (fun H1 G2 => Q 1 H1 G2) H G)) ∧ (¬ (((H 3 7) : Int) = l1) → (wR_failHere (fun x6 H4 G5 => ((x6 : Int) = 0 ∨ x6 = 1) ∧ Q x6 H4 G5) 2 H G)))
set_option maxRecDepth 100000 in
set_option maxHeartbeats 4000000 in
theorem sR_expect (L : Nat) (xs : Nat → Int32) (Q : Int → e3_H → e3_G → Prop) (l1 : Int) (H : e3_H) (G : e3_G) (h : wR_expect Q l1 H G) : e3_Ev (wB L xs) 1 21 38 0 [(2, 14), (0, l1)] [] H G (e3_q0 Q) := by
  unfold wR_expect at h
  refine e3_K [0, 4, 2, 0] 8 [(2, 14), (0, l1)] [(0, l1), (0, (H 3 7))] (H) (G) (wZ L xs) (M := tbM38) rfl rfl ⟨trivial, trivial, trivial⟩ ?_
  refine e3_br (M := tbM38) rfl rfl rfl Iff.rfl (fun hc => ?_) (fun hc => ?_)
  · replace h := h.1 hc
    refine e3_K [0, 4] 21 [(2, 14), (0, l1)] [(2, 3)] (H) (G) (wZ L xs) (M := tbM38) rfl rfl ⟨trivial, trivial⟩ ?_
    refine e3_call (o := 0) (k := 25) (M2 := tbM25) (f1 := 0) (w1 := 0) (as := [(2, 3)]) (rest := []) (M := tbM38) rfl rfl rfl trivial (Nat.le_of_ble_eq_true rfl) (Nat.le_of_ble_eq_true rfl) (Nat.le_of_ble_eq_true rfl) ?_
    refine e3_mono (sT_step L xs _ _ _ h) (fun r H1 G2 h => ?_)
    obtain ⟨rfl, h⟩ := h
    change e3_Ev _ _ _ _ 24 [(2, 14), (0, l1)] [] H1 G2 _
    refine e3_K [0] 25 [(2, 14), (0, l1)] [(0, 1)] (H1) (G2) (wZ L xs) (M := tbM38) rfl rfl trivial ?_
    exact e3_retb (M := tbM38) rfl rfl rfl (Or.inr rfl) ⟨_, rfl, h⟩
  · replace h := h.2 hc
    refine e3_K [0, 0] 13 [(2, 14), (0, l1)] [(0, 2), (2, 14)] (H) (G) (wZ L xs) (M := tbM38) rfl rfl trivial ?_
    refine e3_call (o := 0) (k := 27) (M2 := tbM27) (f1 := 0) (w1 := 0) (as := [(2, 14), (0, 2)]) (rest := []) (M := tbM38) rfl rfl rfl trivial (Nat.le_of_ble_eq_true rfl) (Nat.le_of_ble_eq_true rfl) (Nat.le_of_ble_eq_true rfl) ?_
    refine e3_mono (sR_failHere L xs _ _ _ _ h) (fun r H4 G5 h => ?_)
    obtain ⟨x6, rfl, h⟩ := h
    change e3_Ev _ _ _ _ 16 [(2, 14), (0, l1)] [(0, x6)] H4 G5 _
    exact e3_retb (M := tbM38) rfl rfl rfl h.1 ⟨_, rfl, h.2⟩
/-- LetterPost$Reader.readParts(I)Z -/
def wR_readParts_75 (Q : Int → e3_H → e3_G → Prop)  (H : e3_H) (G : e3_G) : Prop :=
  (wR_expect (fun x3 H1 G2 => ((x3 : Int) = 0 ∨ x3 = 1) ∧ Q x3 H1 G2) 41 H G)
def wR_readParts_23 (Q : Int → e3_H → e3_G → Prop) (k2 : Int → Int → e3_H → e3_G → Prop) (l1 : Int) (l2 : Int) (H : e3_H) (G : e3_G) : Prop :=
  (wT_step (fun H1 G2 => (wR_sortHere (fun x6 H4 G5 => (((x6 : Int) < 0 → Q 0 H4 G5) ∧ (¬ ((x6 : Int) < 0) → (((l2 : Int) = 4 → (wR_failHere (fun x9 H7 G8 => ((x9 : Int) = 0 ∨ x9 = 1) ∧ Q x9 H7 G8) 9 H4 G5)) ∧ (¬ ((l2 : Int) = 4) → (wK_addPart (fun H10 G11 => (wT_step (fun H13 G14 => (k2 l1 (e3_w32 (l2 + 1)) H13 G14)) H10 G11)) l1 x6 H4 G5)))))) H1 G2)) H G)
def wR_readParts_2 (Q : Int → e3_H → e3_G → Prop) : Nat → Int → Int → e3_H → e3_G → Prop
  | 0, _, _, _, _ => False
  | nn + 1, l1, l2, H, G => (((4 : Int) < l2 → (wR_readParts_75 Q H G)) ∧ (¬ ((4 : Int) < l2) → (((l2 : Int) = 0 → (wR_readParts_23 Q (fun l1 l2 H G => wR_readParts_2 Q nn l1 l2 H G) l1 l2 H G)) ∧ (¬ ((l2 : Int) = 0) → ((((H 3 7) : Int) = 44 → (wR_readParts_23 Q (fun l1 l2 H G => wR_readParts_2 Q nn l1 l2 H G) l1 l2 H G)) ∧ (¬ (((H 3 7) : Int) = 44) → (wR_readParts_75 Q H G)))))))
def wR_readParts (Q : Int → e3_H → e3_G → Prop) (l1 : Int) (H : e3_H) (G : e3_G) : Prop :=
  (∃ n, wR_readParts_2 Q n l1 0 H G)
set_option maxRecDepth 100000 in
set_option maxHeartbeats 4000000 in
theorem sR_readParts_75 (L : Nat) (xs : Nat → Int32) (Q : Int → e3_H → e3_G → Prop)  (H : e3_H) (G : e3_G) (h : wR_readParts_75 Q  H G) : e3_Ev (wB L xs) 2 44 35 75 [(2, 14), (3, 0), (3, 0), (3, 0)] [] H G (e3_q0 Q) := by
  unfold wR_readParts_75 at h
  refine e3_K [0, 0] 78 [(2, 14), (3, 0), (3, 0), (3, 0)] [(0, 41), (2, 14)] (H) (G) (wZ L xs) (M := tbM35) rfl rfl trivial ?_
  refine e3_call (o := 0) (k := 38) (M2 := tbM38) (f1 := 1) (w1 := 21) (as := [(2, 14), (0, 41)]) (rest := []) (M := tbM35) rfl rfl rfl trivial (Nat.le_of_ble_eq_true rfl) (Nat.le_of_ble_eq_true rfl) (Nat.le_of_ble_eq_true rfl) ?_
  refine e3_mono (sR_expect L xs _ _ _ _ h) (fun r H1 G2 h => ?_)
  obtain ⟨x3, rfl, h⟩ := h
  change e3_Ev _ _ _ _ 81 [(2, 14), (3, 0), (3, 0), (3, 0)] [(0, x3)] H1 G2 _
  exact e3_retb (M := tbM35) rfl rfl rfl h.1 ⟨_, rfl, h.2⟩
set_option maxRecDepth 100000 in
set_option maxHeartbeats 4000000 in
theorem sR_readParts_23 (L : Nat) (xs : Nat → Int32) (Q : Int → e3_H → e3_G → Prop) (k2 : Int → Int → e3_H → e3_G → Prop) (hk2 : ∀ (l1 : Int) (l2 : Int) (H : e3_H) (G : e3_G), k2 l1 l2 H G → e3_Ev (wB L xs) 2 44 35 2 [(2, 14), (0, l1), (0, l2), (3, 0)] [] H G (e3_q0 Q)) (l1 : Int) (l2 : Int) (H : e3_H) (G : e3_G) (h : wR_readParts_23 Q k2 l1 l2 H G) : e3_Ev (wB L xs) 2 44 35 23 [(2, 14), (0, l1), (0, l2), (3, 0)] [] H G (e3_q0 Q) := by
  unfold wR_readParts_23 at h
  refine e3_K [0, 4] 27 [(2, 14), (0, l1), (0, l2), (3, 0)] [(2, 3)] (H) (G) (wZ L xs) (M := tbM35) rfl rfl ⟨trivial, trivial⟩ ?_
  refine e3_call (o := 0) (k := 25) (M2 := tbM25) (f1 := 0) (w1 := 0) (as := [(2, 3)]) (rest := []) (M := tbM35) rfl rfl rfl trivial (Nat.le_of_ble_eq_true rfl) (Nat.le_of_ble_eq_true rfl) (Nat.le_of_ble_eq_true rfl) ?_
  refine e3_mono (sT_step L xs _ _ _ h) (fun r H1 G2 h => ?_)
  obtain ⟨rfl, h⟩ := h
  change e3_Ev _ _ _ _ 30 [(2, 14), (0, l1), (0, l2), (3, 0)] [] H1 G2 _
  refine e3_K [0] 31 [(2, 14), (0, l1), (0, l2), (3, 0)] [(2, 14)] (H1) (G2) (wZ L xs) (M := tbM35) rfl rfl trivial ?_
  refine e3_call (o := 0) (k := 36) (M2 := tbM36) (f1 := 1) (w1 := 23) (as := [(2, 14)]) (rest := []) (M := tbM35) rfl rfl rfl trivial (Nat.le_of_ble_eq_true rfl) (Nat.le_of_ble_eq_true rfl) (Nat.le_of_ble_eq_true rfl) ?_
  refine e3_mono (sR_sortHere L xs _ _ _ h) (fun r H4 G5 h => ?_)
  obtain ⟨x6, rfl, h⟩ := h
  change e3_Ev _ _ _ _ 34 [(2, 14), (0, l1), (0, l2), (3, 0)] [(0, x6)] H4 G5 _
  refine e3_K [0, 0] 36 [(2, 14), (0, l1), (0, l2), (0, x6)] [(0, x6)] (H4) (G5) (wZ L xs) (M := tbM35) rfl rfl trivial ?_
  refine e3_br (M := tbM35) rfl rfl rfl Iff.rfl (fun hc => ?_) (fun hc => ?_)
  · replace h := h.1 hc
    refine e3_K [0] 40 [(2, 14), (0, l1), (0, l2), (0, x6)] [(0, 0)] (H4) (G5) (wZ L xs) (M := tbM35) rfl rfl trivial ?_
    exact e3_retb (M := tbM35) rfl rfl rfl (Or.inl rfl) ⟨_, rfl, h⟩
  · replace h := h.2 hc
    refine e3_K [0, 0] 43 [(2, 14), (0, l1), (0, l2), (0, x6)] [(0, 4), (0, l2)] (H4) (G5) (wZ L xs) (M := tbM35) rfl rfl trivial ?_
    refine e3_br (M := tbM35) rfl rfl rfl Iff.rfl (fun hc => ?_) (fun hc => ?_)
    · replace h := h.1 hc
      refine e3_K [0, 0] 49 [(2, 14), (0, l1), (0, l2), (0, x6)] [(0, 9), (2, 14)] (H4) (G5) (wZ L xs) (M := tbM35) rfl rfl trivial ?_
      refine e3_call (o := 0) (k := 27) (M2 := tbM27) (f1 := 0) (w1 := 0) (as := [(2, 14), (0, 9)]) (rest := []) (M := tbM35) rfl rfl rfl trivial (Nat.le_of_ble_eq_true rfl) (Nat.le_of_ble_eq_true rfl) (Nat.le_of_ble_eq_true rfl) ?_
      refine e3_mono (sR_failHere L xs _ _ _ _ h) (fun r H7 G8 h => ?_)
      obtain ⟨x9, rfl, h⟩ := h
      change e3_Ev _ _ _ _ 52 [(2, 14), (0, l1), (0, l2), (0, x6)] [(0, x9)] H7 G8 _
      exact e3_retb (M := tbM35) rfl rfl rfl h.1 ⟨_, rfl, h.2⟩
    · replace h := h.2 hc
      refine e3_K [0, 4, 0, 0] 59 [(2, 14), (0, l1), (0, l2), (0, x6)] [(0, x6), (0, l1), (2, 8)] (H4) (G5) (wZ L xs) (M := tbM35) rfl rfl ⟨trivial, trivial⟩ ?_
      refine e3_call (o := 0) (k := 37) (M2 := tbM37) (f1 := 1) (w1 := 21) (as := [(2, 8), (0, l1), (0, x6)]) (rest := []) (M := tbM35) rfl rfl rfl trivial (Nat.le_of_ble_eq_true rfl) (Nat.le_of_ble_eq_true rfl) (Nat.le_of_ble_eq_true rfl) ?_
      refine e3_mono (sK_addPart L xs _ _ _ _ _ h) (fun r H10 G11 h => ?_)
      obtain ⟨rfl, h⟩ := h
      change e3_Ev _ _ _ _ 62 [(2, 14), (0, l1), (0, l2), (0, x6)] [] H10 G11 _
      refine e3_K [0, 4] 66 [(2, 14), (0, l1), (0, l2), (0, x6)] [(2, 3)] (H10) (G11) (wZ L xs) (M := tbM35) rfl rfl ⟨trivial, trivial⟩ ?_
      refine e3_call (o := 0) (k := 25) (M2 := tbM25) (f1 := 0) (w1 := 0) (as := [(2, 3)]) (rest := []) (M := tbM35) rfl rfl rfl trivial (Nat.le_of_ble_eq_true rfl) (Nat.le_of_ble_eq_true rfl) (Nat.le_of_ble_eq_true rfl) ?_
      refine e3_mono (sT_step L xs _ _ _ h) (fun r H13 G14 h => ?_)
      obtain ⟨rfl, h⟩ := h
      change e3_Ev _ _ _ _ 69 [(2, 14), (0, l1), (0, l2), (0, x6)] [] H13 G14 _
      refine e3_K [0, 0] 2 [(2, 14), (0, l1), (0, (e3_w32 (l2 + 1))), (0, x6)] [] (H13) (G14) (wZ L xs) (M := tbM35) rfl rfl trivial ?_
      refine e3_fgt [true, true, true, false] ?_
      exact hk2 _ _ _ _ h
set_option maxRecDepth 100000 in
set_option maxHeartbeats 4000000 in
theorem sR_readParts_2 (L : Nat) (xs : Nat → Int32) (Q : Int → e3_H → e3_G → Prop) : ∀ (nl : Nat) (l1 : Int) (l2 : Int) (H : e3_H) (G : e3_G), wR_readParts_2 Q nl l1 l2 H G → e3_Ev (wB L xs) 2 44 35 2 [(2, 14), (0, l1), (0, l2), (3, 0)] [] H G (e3_q0 Q) := by
  intro nl
  induction nl with
  | zero => intro l1 l2 H G h; exact h.elim
  | succ nn ih =>
    intro l1 l2 H G h
    have h : (((4 : Int) < l2 → (wR_readParts_75 Q H G)) ∧ (¬ ((4 : Int) < l2) → (((l2 : Int) = 0 → (wR_readParts_23 Q (fun l1 l2 H G => wR_readParts_2 Q nn l1 l2 H G) l1 l2 H G)) ∧ (¬ ((l2 : Int) = 0) → ((((H 3 7) : Int) = 44 → (wR_readParts_23 Q (fun l1 l2 H G => wR_readParts_2 Q nn l1 l2 H G) l1 l2 H G)) ∧ (¬ (((H 3 7) : Int) = 44) → (wR_readParts_75 Q H G))))))) := h
    refine e3_K [0, 0] 4 [(2, 14), (0, l1), (0, l2), (3, 0)] [(0, 4), (0, l2)] (H) (G) (wZ L xs) (M := tbM35) rfl rfl trivial ?_
    refine e3_br (M := tbM35) rfl rfl rfl Iff.rfl (fun hc => ?_) (fun hc => ?_)
    · replace h := h.1 hc
      refine e3_fgt [true, false, false, false] ?_
      exact sR_readParts_75 L xs Q _ _ h
    · replace h := h.2 hc
      refine e3_K [0] 8 [(2, 14), (0, l1), (0, l2), (3, 0)] [(0, l2)] (H) (G) (wZ L xs) (M := tbM35) rfl rfl trivial ?_
      refine e3_br (M := tbM35) rfl rfl rfl Iff.rfl (fun hc => ?_) (fun hc => ?_)
      · replace h := h.1 hc
        exact sR_readParts_23 L xs Q (fun l1 l2 H G => wR_readParts_2 Q nn l1 l2 H G) ih _ _ _ _ h
      · replace h := h.2 hc
        refine e3_K [0, 4, 2, 0] 20 [(2, 14), (0, l1), (0, l2), (3, 0)] [(0, 44), (0, (H 3 7))] (H) (G) (wZ L xs) (M := tbM35) rfl rfl ⟨trivial, trivial, trivial⟩ ?_
        refine e3_br (M := tbM35) rfl rfl rfl Iff.rfl (fun hc => ?_) (fun hc => ?_)
        · replace h := h.1 hc
          exact sR_readParts_23 L xs Q (fun l1 l2 H G => wR_readParts_2 Q nn l1 l2 H G) ih _ _ _ _ h
        · replace h := h.2 hc
          refine e3_fgt [true, false, false, false] ?_
          exact sR_readParts_75 L xs Q _ _ h
set_option maxRecDepth 100000 in
set_option maxHeartbeats 4000000 in
theorem sR_readParts (L : Nat) (xs : Nat → Int32) (Q : Int → e3_H → e3_G → Prop) (l1 : Int) (H : e3_H) (G : e3_G) (h : wR_readParts Q l1 H G) : e3_Ev (wB L xs) 2 44 35 0 [(2, 14), (0, l1), (3, 0), (3, 0)] [] H G (e3_q0 Q) := by
  unfold wR_readParts at h
  refine e3_K [0, 0] 2 [(2, 14), (0, l1), (0, 0), (3, 0)] [] (H) (G) (wZ L xs) (M := tbM35) rfl rfl trivial ?_
  obtain ⟨nl, h⟩ := h
  exact sR_readParts_2 L xs Q nl _ _ _ _ h
