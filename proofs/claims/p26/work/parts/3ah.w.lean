/-- LetterPost$Function.firstWithTooManyRows()LLetterPost$Rule; -/
def wF_firstWithTooManyRows_4 (Q : Int → e3_H → e3_G → Prop) : Nat → Int → Int → Int → e3_H → e3_G → Prop
  | 0, _, _, _, _, _ => False
  | nn + 1, l0, l1, l2, H, G => (e3_ob G 8 l0) ∧ (((l2 : Int) < (H l0 3) → (e3_ob G 8 l0) ∧ (e3_oa G 5 (H l0 4) l2) ∧ (e3_ob G 9 (H (H l0 4) l2)) ∧ (((40 : Int) < (e3_w32 (l1 + (H (H (H l0 4) l2) 3))) → (e3_ob G 8 l0) ∧ (e3_oa G 5 (H l0 4) l2) ∧ Q (H (H l0 4) l2) H G) ∧ (¬ ((40 : Int) < (e3_w32 (l1 + (H (H (H l0 4) l2) 3)))) → (wF_firstWithTooManyRows_4 Q nn l0 (e3_w32 (l1 + (H (H (H l0 4) l2) 3))) (e3_w32 (l2 + 1)) H G)))) ∧ (¬ ((l2 : Int) < (H l0 3)) → Q (-1) H G))
def wF_firstWithTooManyRows (Q : Int → e3_H → e3_G → Prop) (l0 : Int) (H : e3_H) (G : e3_G) : Prop :=
  (∃ n, wF_firstWithTooManyRows_4 Q n l0 0 0 H G)
set_option maxRecDepth 100000 in
set_option maxHeartbeats 4000000 in
theorem sF_firstWithTooManyRows_4 (L : Nat) (xs : Nat → Int32) (Q : Int → e3_H → e3_G → Prop) : ∀ (nl : Nat) (l0 : Int) (l1 : Int) (l2 : Int) (H : e3_H) (G : e3_G), wF_firstWithTooManyRows_4 Q nl l0 l1 l2 H G → e3_Ev (wB L xs) 0 0 86 4 [(2, l0), (0, l1), (0, l2)] [] H G (e3_q2 Q) := by
  intro nl
  induction nl with
  | zero => intro l0 l1 l2 H G h; exact h.elim
  | succ nn ih =>
    intro l0 l1 l2 H G h
    have h : (e3_ob G 8 l0) ∧ (((l2 : Int) < (H l0 3) → (e3_ob G 8 l0) ∧ (e3_oa G 5 (H l0 4) l2) ∧ (e3_ob G 9 (H (H l0 4) l2)) ∧ (((40 : Int) < (e3_w32 (l1 + (H (H (H l0 4) l2) 3))) → (e3_ob G 8 l0) ∧ (e3_oa G 5 (H l0 4) l2) ∧ Q (H (H l0 4) l2) H G) ∧ (¬ ((40 : Int) < (e3_w32 (l1 + (H (H (H l0 4) l2) 3)))) → (wF_firstWithTooManyRows_4 Q nn l0 (e3_w32 (l1 + (H (H (H l0 4) l2) 3))) (e3_w32 (l2 + 1)) H G)))) ∧ (¬ ((l2 : Int) < (H l0 3)) → Q (-1) H G)) := h
    obtain ⟨o1, h⟩ := h
    refine e3_K [0, 0, 3] 9 [(2, l0), (0, l1), (0, l2)] [(0, (H l0 3)), (0, l2)] (H) (G) (wZ L xs) (M := tbM86) rfl rfl ⟨o1, trivial⟩ ?_
    refine e3_br (M := tbM86) rfl rfl rfl Iff.rfl (fun hc => ?_) (fun hc => ?_)
    · replace h := h.1 hc
      obtain ⟨o2, o3, o4, h⟩ := h
      refine e3_K [0, 0, 3, 0, 8, 3, 0, 0, 0, 0] 27 [(2, l0), (0, (e3_w32 (l1 + (H (H (H l0 4) l2) 3)))), (0, l2)] [(0, 40), (0, (e3_w32 (l1 + (H (H (H l0 4) l2) 3))))] (H) (G) (wZ L xs) (M := tbM86) rfl rfl ⟨o2, o3, o4, trivial⟩ ?_
      refine e3_br (M := tbM86) rfl rfl rfl Iff.rfl (fun hc => ?_) (fun hc => ?_)
      · replace h := h.1 hc
        obtain ⟨o5, o6, h⟩ := h
        refine e3_K [0, 3, 0, 8] 36 [(2, l0), (0, (e3_w32 (l1 + (H (H (H l0 4) l2) 3)))), (0, l2)] [(2, (H (H l0 4) l2))] (H) (G) (wZ L xs) (M := tbM86) rfl rfl ⟨o5, o6, trivial⟩ ?_
        exact e3_reta (M := tbM86) rfl rfl rfl ⟨_, rfl, h⟩
      · replace h := h.2 hc
        refine e3_K [0, 0] 4 [(2, l0), (0, (e3_w32 (l1 + (H (H (H l0 4) l2) 3)))), (0, (e3_w32 (l2 + 1)))] [] (H) (G) (wZ L xs) (M := tbM86) rfl rfl trivial ?_
        exact ih _ _ _ _ _ h
    · replace h := h.2 hc
      refine e3_K [0] 44 [(2, l0), (0, l1), (0, l2)] [(2, (-1))] (H) (G) (wZ L xs) (M := tbM86) rfl rfl trivial ?_
      exact e3_reta (M := tbM86) rfl rfl rfl ⟨_, rfl, h⟩
set_option maxRecDepth 100000 in
set_option maxHeartbeats 4000000 in
theorem sF_firstWithTooManyRows (L : Nat) (xs : Nat → Int32) (Q : Int → e3_H → e3_G → Prop) (l0 : Int) (H : e3_H) (G : e3_G) (h : wF_firstWithTooManyRows Q l0 H G) : e3_Ev (wB L xs) 0 0 86 0 [(2, l0), (3, 0), (3, 0)] [] H G (e3_q2 Q) := by
  unfold wF_firstWithTooManyRows at h
  refine e3_K [0, 0, 0, 0] 4 [(2, l0), (0, 0), (0, 0)] [] (H) (G) (wZ L xs) (M := tbM86) rfl rfl trivial ?_
  obtain ⟨nl, h⟩ := h
  exact sF_firstWithTooManyRows_4 L xs Q nl _ _ _ _ _ h
/-- LetterPost$Row.<init>(LLetterPost$Rule;I)V -/
def wO_init (Q : e3_H → e3_G → Prop) (l0 : Int) (l1 : Int) (l2 : Int) (H : e3_H) (G : e3_G) : Prop :=
  ((0 : Int) ≤ l0) ∧ ∀ (H1 : e3_H) (G2 : e3_G), H1 = e3_nw H (G.length : Int) (fun _ => 0) → G2 = G ++ [(0, (8 : Int).toNat)] → (e3_ob G2 11 l0) ∧ ∀ H3 : e3_H, H3 = e3_up H1 l0 4 (G.length : Int) → (e3_ob G2 11 l0) ∧ ∀ H5 : e3_H, H5 = e3_up H3 l0 0 l1 → ((0 : Int) ≤ l2 ∧ l2 ≤ 1000000) ∧ ∀ (H7 : e3_H) (G8 : e3_G), H7 = e3_nw H5 (G2.length : Int) (fun _ => -1) → G8 = G2 ++ [(7, (l2 : Int).toNat)] → (e3_ob G8 11 l0) ∧ ∀ H10 : e3_H, H10 = e3_up H7 l0 2 (G2.length : Int) → ((0 : Int) ≤ l2 ∧ l2 ≤ 1000000) ∧ ∀ (H12 : e3_H) (G13 : e3_G), H12 = e3_nw H10 (G8.length : Int) (fun _ => -1) → G13 = G8 ++ [(7, (l2 : Int).toNat)] → (e3_ob G13 11 l0) ∧ ∀ H15 : e3_H, H15 = e3_up H12 l0 3 (G8.length : Int) → Q H15 G13
set_option maxRecDepth 100000 in
set_option maxHeartbeats 4000000 in
theorem sO_init (L : Nat) (xs : Nat → Int32) (Q : e3_H → e3_G → Prop) (l0 : Int) (l1 : Int) (l2 : Int) (H : e3_H) (G : e3_G) (h : wO_init Q l0 l1 l2 H G) : e3_Ev (wB L xs) 1 40 88 0 [(2, l0), (2, l1), (0, l2)] [] H G (e3_qv Q) := by
  unfold wO_init at h
  refine e3_K [0] 1 [(2, l0), (2, l1), (0, l2)] [(2, l0)] (H) (G) (wZ L xs) (M := tbM88) rfl rfl trivial ?_
  obtain ⟨oz, h⟩ := h
  refine e3_oi (M := tbM88) rfl rfl rfl oz (Nat.le_of_ble_eq_true rfl) (Nat.le_of_ble_eq_true rfl) ?_
  refine e3_K [0, 0, 2] 9 [(2, l0), (2, l1), (0, l2)] [(2, (G.length : Int)), (2, l0)] (e3_nw H (G.length : Int) (fun _ => 0)) (G ++ [(0, (8 : Int).toNat)]) (wZ L xs) (M := tbM88) rfl rfl ⟨⟨by decide, by decide⟩, trivial⟩ ?_
  generalize hH1 : (e3_nw H (G.length : Int) (fun _ => 0)) = H1
  generalize hG2 : (G ++ [(0, (8 : Int).toNat)]) = G2
  replace h := h H1 G2 hH1.symm hG2.symm
  obtain ⟨o4, h⟩ := h
  refine e3_K [3] 12 [(2, l0), (2, l1), (0, l2)] [] (e3_up H1 l0 4 (G.length : Int)) (G2) (wZ L xs) (M := tbM88) rfl rfl ⟨⟨o4, trivial⟩, trivial⟩ ?_
  generalize hH3 : (e3_up H1 l0 4 (G.length : Int)) = H3
  replace h := h H3 hH3.symm
  obtain ⟨o6, h⟩ := h
  refine e3_K [0, 0, 3] 17 [(2, l0), (2, l1), (0, l2)] [] (e3_up H3 l0 0 l1) (G2) (wZ L xs) (M := tbM88) rfl rfl ⟨⟨o6, trivial⟩, trivial⟩ ?_
  generalize hH5 : (e3_up H3 l0 0 l1) = H5
  replace h := h H5 hH5.symm
  obtain ⟨o9, h⟩ := h
  refine e3_K [0, 0, 2] 22 [(2, l0), (2, l1), (0, l2)] [(2, (G2.length : Int)), (2, l0)] (e3_nw H5 (G2.length : Int) (fun _ => -1)) (G2 ++ [(7, (l2 : Int).toNat)]) (wZ L xs) (M := tbM88) rfl rfl ⟨o9, trivial⟩ ?_
  generalize hH7 : (e3_nw H5 (G2.length : Int) (fun _ => -1)) = H7
  generalize hG8 : (G2 ++ [(7, (l2 : Int).toNat)]) = G8
  replace h := h H7 G8 hH7.symm hG8.symm
  obtain ⟨o11, h⟩ := h
  refine e3_K [3] 25 [(2, l0), (2, l1), (0, l2)] [] (e3_up H7 l0 2 (G2.length : Int)) (G8) (wZ L xs) (M := tbM88) rfl rfl ⟨⟨o11, trivial⟩, trivial⟩ ?_
  generalize hH10 : (e3_up H7 l0 2 (G2.length : Int)) = H10
  replace h := h H10 hH10.symm
  obtain ⟨o14, h⟩ := h
  refine e3_K [0, 0, 2] 30 [(2, l0), (2, l1), (0, l2)] [(2, (G8.length : Int)), (2, l0)] (e3_nw H10 (G8.length : Int) (fun _ => -1)) (G8 ++ [(7, (l2 : Int).toNat)]) (wZ L xs) (M := tbM88) rfl rfl ⟨o14, trivial⟩ ?_
  generalize hH12 : (e3_nw H10 (G8.length : Int) (fun _ => -1)) = H12
  generalize hG13 : (G8 ++ [(7, (l2 : Int).toNat)]) = G13
  replace h := h H12 G13 hH12.symm hG13.symm
  obtain ⟨o16, h⟩ := h
  refine e3_K [3] 33 [(2, l0), (2, l1), (0, l2)] [] (e3_up H12 l0 3 (G8.length : Int)) (G13) (wZ L xs) (M := tbM88) rfl rfl ⟨⟨o16, trivial⟩, trivial⟩ ?_
  generalize hH15 : (e3_up H12 l0 3 (G8.length : Int)) = H15
  replace h := h H15 hH15.symm
  exact e3_retv (M := tbM88) rfl rfl rfl ⟨rfl, h⟩
/-- LetterPost$Row.holdName(JI)V -/
def wO_holdName_33 (Q : e3_H → e3_G → Prop)  (H : e3_H) (G : e3_G) : Prop :=
  Q H G
def wO_holdName (Q : e3_H → e3_G → Prop) (l0 : Int) (l1 : Int) (l3 : Int) (H : e3_H) (G : e3_G) : Prop :=
  (e3_ob G 11 l0) ∧ (e3_ob G 9 (H l0 0)) ∧ (wU_nameNumber (fun x4 H2 G3 => (((x4 : Int) < 0 → (wO_holdName_33 Q H2 G3)) ∧ (¬ ((x4 : Int) < 0) → (e3_ob G3 11 l0) ∧ ((2 : Int) ≤ (H2 l0 4) ∧ e3_ln G3 (H2 l0 4) ≤ 2147483647 ∧ ∃ n, G3[((H2 l0 4) : Int).toNat]? = some (0, n)) ∧ (((x4 : Int) < (e3_ln G3 (H2 l0 4)) → (e3_ob G3 11 l0) ∧ (e3_oa G3 0 (H2 l0 4) x4) ∧ ∀ H7 : e3_H, H7 = e3_up H2 (H2 l0 4) x4 l3 → (wO_holdName_33 Q H7 G3)) ∧ (¬ ((x4 : Int) < (e3_ln G3 (H2 l0 4))) → (wO_holdName_33 Q H2 G3)))))) (H l0 0) l1 H G)
set_option maxRecDepth 100000 in
set_option maxHeartbeats 4000000 in
theorem sO_holdName_33 (L : Nat) (xs : Nat → Int32) (Q : e3_H → e3_G → Prop)  (H : e3_H) (G : e3_G) (h : wO_holdName_33 Q  H G) : e3_Ev (wB L xs) 1 23 91 33 [(3, 0), (3, 0), (3, 0), (3, 0), (3, 0)] [] H G (e3_qv Q) := by
  unfold wO_holdName_33 at h
  exact e3_retv (M := tbM91) rfl rfl rfl ⟨rfl, h⟩
set_option maxRecDepth 100000 in
set_option maxHeartbeats 4000000 in
theorem sO_holdName (L : Nat) (xs : Nat → Int32) (Q : e3_H → e3_G → Prop) (l0 : Int) (l1 : Int) (l3 : Int) (H : e3_H) (G : e3_G) (h : wO_holdName Q l0 l1 l3 H G) : e3_Ev (wB L xs) 1 23 91 0 [(2, l0), (1, l1), (3, 0), (0, l3), (3, 0)] [] H G (e3_qv Q) := by
  unfold wO_holdName at h
  obtain ⟨o1, h⟩ := h
  refine e3_K [0, 3, 0] 5 [(2, l0), (1, l1), (3, 0), (0, l3), (3, 0)] [(1, l1), (2, (H l0 0))] (H) (G) (wZ L xs) (M := tbM91) rfl rfl ⟨o1, trivial⟩ ?_
  obtain ⟨oz, h⟩ := h
  refine e3_call (o := 1) (k := 52) (M2 := tbM52) (f1 := 0) (w1 := 0) (as := [(2, (H l0 0)), (1, l1)]) (rest := []) (M := tbM91) rfl rfl rfl oz (Nat.le_of_ble_eq_true rfl) (Nat.le_of_ble_eq_true rfl) (Nat.le_of_ble_eq_true rfl) ?_
  refine e3_mono (sU_nameNumber L xs _ _ _ _ _ h) (fun r H2 G3 h => ?_)
  obtain ⟨x4, rfl, h⟩ := h
  change e3_Ev _ _ _ _ 8 [(2, l0), (1, l1), (3, 0), (0, l3), (3, 0)] [(0, x4)] H2 G3 _
  refine e3_K [0, 0] 12 [(2, l0), (1, l1), (3, 0), (0, l3), (0, x4)] [(0, x4)] (H2) (G3) (wZ L xs) (M := tbM91) rfl rfl trivial ?_
  refine e3_br (M := tbM91) rfl rfl rfl Iff.rfl (fun hc => ?_) (fun hc => ?_)
  · replace h := h.1 hc
    refine e3_fgt [false, false, false, false, false] ?_
    exact sO_holdName_33 L xs Q _ _ h
  · replace h := h.2 hc
    obtain ⟨o5, o6, h⟩ := h
    refine e3_K [0, 0, 3, 3] 22 [(2, l0), (1, l1), (3, 0), (0, l3), (0, x4)] [(0, (e3_ln G3 (H2 l0 4))), (0, x4)] (H2) (G3) (wZ L xs) (M := tbM91) rfl rfl ⟨o5, o6, trivial⟩ ?_
    refine e3_br (M := tbM91) rfl rfl rfl Iff.rfl (fun hc => ?_) (fun hc => ?_)
    · replace h := h.1 hc
      obtain ⟨o8, o9, h⟩ := h
      refine e3_K [0, 3, 0, 0, 3] 33 [(2, l0), (1, l1), (3, 0), (0, l3), (0, x4)] [] (e3_up H2 (H2 l0 4) x4 l3) (G3) (wZ L xs) (M := tbM91) rfl rfl ⟨o8, o9, trivial⟩ ?_
      generalize hH7 : (e3_up H2 (H2 l0 4) x4 l3) = H7
      replace h := h H7 hH7.symm
      refine e3_fgt [false, false, false, false, false] ?_
      exact sO_holdName_33 L xs Q _ _ h
    · replace h := h.2 hc
      refine e3_fgt [false, false, false, false, false] ?_
      exact sO_holdName_33 L xs Q _ _ h
/-- LetterPost$Row.layAlternative(LLetterPost$Pattern;II)V -/
def wO_layAlternative_9 (R : Int → Int → Int → Int → e3_H → e3_G → (e3_H → e3_G → Prop) → Prop) (Q : e3_H → e3_G → Prop) : Nat → Int → Int → Int → Int → e3_H → e3_G → Prop
  | 0, _, _, _, _, _, _ => False
  | nn + 1, l0, l3, l4, l5, H, G => (((l5 : Int) < 0 → Q H G) ∧ (¬ ((l5 : Int) < 0) → (e3_ob G 10 l5) ∧ (((l4 : Int) < (H l5 9) → (e3_ob G 11 l0) ∧ (R l0 l5 l4 (e3_w32 (l3 + 1)) H G (fun H2 G3 => Q H2 G3))) ∧ (¬ ((l4 : Int) < (H l5 9)) → (e3_ob G 10 l5) ∧ (e3_ob G 10 l5) ∧ (wO_layAlternative_9 R Q nn l0 l3 (e3_w32 (l4 - (H l5 9))) (H l5 8) H G)))))
def wO_layAlternative (R : Int → Int → Int → Int → e3_H → e3_G → (e3_H → e3_G → Prop) → Prop) (Q : e3_H → e3_G → Prop) (l0 : Int) (l1 : Int) (l2 : Int) (l3 : Int) (H : e3_H) (G : e3_G) : Prop :=
  (e3_ob G 10 l1) ∧ (∃ n, wO_layAlternative_9 R Q n l0 l3 l2 (H l1 7) H G)
set_option maxRecDepth 100000 in
set_option maxHeartbeats 4000000 in
theorem sO_layAlternative_9 (L : Nat) (xs : Nat → Int32) (n : Nat) (R : Int → Int → Int → Int → e3_H → e3_G → (e3_H → e3_G → Prop) → Prop) (hR : ∀ (l0 : Int) (l1 : Int) (l2 : Int) (l3 : Int) (H : e3_H) (G : e3_G) (Q : e3_H → e3_G → Prop), R l0 l1 l2 l3 H G Q → e3_Ev (wB L xs) (3 + 3 * n) (66 + 68 * n) 90 0 [(2, l0), (2, l1), (0, l2), (0, l3)] [] H G (e3_qv Q)) (Q : e3_H → e3_G → Prop) : ∀ (nl : Nat) (l0 : Int) (l3 : Int) (l4 : Int) (l5 : Int) (H : e3_H) (G : e3_G), wO_layAlternative_9 R Q nl l0 l3 l4 l5 H G → e3_Ev (wB L xs) (4 + 3 * n) (89 + 68 * n) 92 9 [(2, l0), (3, 0), (3, 0), (0, l3), (0, l4), (2, l5)] [] H G (e3_qv Q) := by
  intro nl
  induction nl with
  | zero => intro l0 l3 l4 l5 H G h; exact h.elim
  | succ nn ih =>
    intro l0 l3 l4 l5 H G h
    have h : (((l5 : Int) < 0 → Q H G) ∧ (¬ ((l5 : Int) < 0) → (e3_ob G 10 l5) ∧ (((l4 : Int) < (H l5 9) → (e3_ob G 11 l0) ∧ (R l0 l5 l4 (e3_w32 (l3 + 1)) H G (fun H2 G3 => Q H2 G3))) ∧ (¬ ((l4 : Int) < (H l5 9)) → (e3_ob G 10 l5) ∧ (e3_ob G 10 l5) ∧ (wO_layAlternative_9 R Q nn l0 l3 (e3_w32 (l4 - (H l5 9))) (H l5 8) H G))))) := h
    refine e3_K [0] 11 [(2, l0), (3, 0), (3, 0), (0, l3), (0, l4), (2, l5)] [(2, l5)] (H) (G) (wZ L xs) (M := tbM92) rfl rfl trivial ?_
    refine e3_br (M := tbM92) rfl rfl rfl Iff.rfl (fun hc => ?_) (fun hc => ?_)
    · replace h := h.1 hc
      exact e3_retv (M := tbM92) rfl rfl rfl ⟨rfl, h⟩
    · replace h := h.2 hc
      obtain ⟨o1, h⟩ := h
      refine e3_K [0, 0, 3] 21 [(2, l0), (3, 0), (3, 0), (0, l3), (0, l4), (2, l5)] [(0, (H l5 9)), (0, l4)] (H) (G) (wZ L xs) (M := tbM92) rfl rfl ⟨o1, trivial⟩ ?_
      refine e3_br (M := tbM92) rfl rfl rfl Iff.rfl (fun hc => ?_) (fun hc => ?_)
      · replace h := h.1 hc
        refine e3_K [0, 0, 0, 0, 0, 0] 32 [(2, l0), (3, 0), (3, 0), (0, l3), (0, l4), (2, l5)] [(0, (e3_w32 (l3 + 1))), (0, l4), (2, l5), (2, l0)] (H) (G) (wZ L xs) (M := tbM92) rfl rfl trivial ?_
        obtain ⟨oz, h⟩ := h
        refine e3_call (o := 1) (k := 90) (M2 := tbM90) (f1 := (3 + 3 * n)) (w1 := (66 + 68 * n)) (as := [(2, l0), (2, l5), (0, l4), (0, (e3_w32 (l3 + 1)))]) (rest := []) (M := tbM92) rfl rfl rfl oz (by omega) (by show (66 + 68 * n) + (19 + 4) ≤ (89 + 68 * n); omega) (Nat.le_of_ble_eq_true rfl) ?_
        refine e3_mono (hR _ _ _ _ _ _ _ h) (fun r H2 G3 h => ?_)
        obtain ⟨rfl, h⟩ := h
        change e3_Ev _ _ _ _ 35 [(2, l0), (3, 0), (3, 0), (0, l3), (0, l4), (2, l5)] [] H2 G3 _
        exact e3_retv (M := tbM92) rfl rfl rfl ⟨rfl, h⟩
      · replace h := h.2 hc
        obtain ⟨o5, o6, h⟩ := h
        refine e3_K [0, 0, 3, 0, 0, 0, 3, 0, 0] 9 [(2, l0), (3, 0), (3, 0), (0, l3), (0, (e3_w32 (l4 - (H l5 9)))), (2, (H l5 8))] [] (H) (G) (wZ L xs) (M := tbM92) rfl rfl ⟨o5, o6, trivial⟩ ?_
        exact ih _ _ _ _ _ _ h
set_option maxRecDepth 100000 in
set_option maxHeartbeats 4000000 in
theorem sO_layAlternative (L : Nat) (xs : Nat → Int32) (n : Nat) (R : Int → Int → Int → Int → e3_H → e3_G → (e3_H → e3_G → Prop) → Prop) (hR : ∀ (l0 : Int) (l1 : Int) (l2 : Int) (l3 : Int) (H : e3_H) (G : e3_G) (Q : e3_H → e3_G → Prop), R l0 l1 l2 l3 H G Q → e3_Ev (wB L xs) (3 + 3 * n) (66 + 68 * n) 90 0 [(2, l0), (2, l1), (0, l2), (0, l3)] [] H G (e3_qv Q)) (Q : e3_H → e3_G → Prop) (l0 : Int) (l1 : Int) (l2 : Int) (l3 : Int) (H : e3_H) (G : e3_G) (h : wO_layAlternative R Q l0 l1 l2 l3 H G) : e3_Ev (wB L xs) (4 + 3 * n) (89 + 68 * n) 92 0 [(2, l0), (2, l1), (0, l2), (0, l3), (3, 0), (3, 0)] [] H G (e3_qv Q) := by
  unfold wO_layAlternative at h
  obtain ⟨o1, h⟩ := h
  refine e3_K [0, 0, 0, 3, 0] 9 [(2, l0), (2, l1), (0, l2), (0, l3), (0, l2), (2, (H l1 7))] [] (H) (G) (wZ L xs) (M := tbM92) rfl rfl ⟨o1, trivial⟩ ?_
  refine e3_fgt [true, false, false, true, true, true] ?_
  obtain ⟨nl, h⟩ := h
  exact sO_layAlternative_9 L xs n R hR Q nl _ _ _ _ _ _ h
/-- LetterPost$Row.addTest(LLetterPost$Pattern;)V -/
def wO_addTest_54 (Q : e3_H → e3_G → Prop)  (H : e3_H) (G : e3_G) : Prop :=
  Q H G
def wO_addTest (Q : e3_H → e3_G → Prop) (l0 : Int) (l1 : Int) (H : e3_H) (G : e3_G) : Prop :=
  (e3_ob G 11 l0) ∧ (e3_ob G 11 l0) ∧ ((2 : Int) ≤ (H l0 2) ∧ e3_ln G (H l0 2) ≤ 2147483647 ∧ ∃ n, G[((H l0 2) : Int).toNat]? = some (7, n)) ∧ ((((H l0 1) : Int) < (e3_ln G (H l0 2)) → (e3_ob G 10 l1) ∧ (e3_ob G 11 l0) ∧ ((2 : Int) ≤ (H l0 3) ∧ e3_ln G (H l0 3) ≤ 2147483647 ∧ ∃ n, G[((H l0 3) : Int).toNat]? = some (7, n)) ∧ ((((H l1 2) : Int) < (e3_ln G (H l0 3)) → (e3_ob G 11 l0) ∧ (e3_ob G 11 l0) ∧ (e3_oa G 7 (H l0 2) (H l0 1)) ∧ ((l1 : Int) < 0 ∨ e3_ob G 10 l1) ∧ ∀ H7 : e3_H, H7 = e3_up H (H l0 2) (H l0 1) l1 → (e3_ob G 11 l0) ∧ (e3_ob G 10 l1) ∧ (e3_oa G 7 (H7 l0 3) (H7 l1 2)) ∧ ((l1 : Int) < 0 ∨ e3_ob G 10 l1) ∧ ∀ H12 : e3_H, H12 = e3_up H7 (H7 l0 3) (H7 l1 2) l1 → (e3_ob G 11 l0) ∧ (e3_ob G 11 l0) ∧ ∀ H17 : e3_H, H17 = e3_up H12 l0 1 (e3_w32 ((H12 l0 1) + 1)) → (wO_addTest_54 Q H17 G)) ∧ (¬ (((H l1 2) : Int) < (e3_ln G (H l0 3))) → (wO_addTest_54 Q H G)))) ∧ (¬ (((H l0 1) : Int) < (e3_ln G (H l0 2))) → (wO_addTest_54 Q H G)))
set_option maxRecDepth 100000 in
set_option maxHeartbeats 4000000 in
theorem sO_addTest_54 (L : Nat) (xs : Nat → Int32) (Q : e3_H → e3_G → Prop)  (H : e3_H) (G : e3_G) (h : wO_addTest_54 Q  H G) : e3_Ev (wB L xs) 0 0 93 54 [(3, 0), (3, 0)] [] H G (e3_qv Q) := by
  unfold wO_addTest_54 at h
  exact e3_retv (M := tbM93) rfl rfl rfl ⟨rfl, h⟩
set_option maxRecDepth 100000 in
set_option maxHeartbeats 4000000 in
theorem sO_addTest (L : Nat) (xs : Nat → Int32) (Q : e3_H → e3_G → Prop) (l0 : Int) (l1 : Int) (H : e3_H) (G : e3_G) (h : wO_addTest Q l0 l1 H G) : e3_Ev (wB L xs) 0 0 93 0 [(2, l0), (2, l1)] [] H G (e3_qv Q) := by
  unfold wO_addTest at h
  obtain ⟨o1, o2, o3, h⟩ := h
  refine e3_K [0, 3, 0, 3, 10] 9 [(2, l0), (2, l1)] [(0, (e3_ln G (H l0 2))), (0, (H l0 1))] (H) (G) (wZ L xs) (M := tbM93) rfl rfl ⟨o1, o2, o3, trivial⟩ ?_
  refine e3_br (M := tbM93) rfl rfl rfl Iff.rfl (fun hc => ?_) (fun hc => ?_)
  · replace h := h.1 hc
    obtain ⟨o4, o5, o6, h⟩ := h
    refine e3_K [0, 3, 0, 3, 10] 21 [(2, l0), (2, l1)] [(0, (e3_ln G (H l0 3))), (0, (H l1 2))] (H) (G) (wZ L xs) (M := tbM93) rfl rfl ⟨o4, o5, o6, trivial⟩ ?_
    refine e3_br (M := tbM93) rfl rfl rfl Iff.rfl (fun hc => ?_) (fun hc => ?_)
    · replace h := h.1 hc
      obtain ⟨o8, o9, o10, o11, h⟩ := h
      refine e3_K [0, 3, 0, 3, 0, 10] 34 [(2, l0), (2, l1)] [] (e3_up H (H l0 2) (H l0 1) l1) (G) (wZ L xs) (M := tbM93) rfl rfl ⟨o8, o9, ⟨o10, o11⟩, trivial⟩ ?_
      generalize hH7 : (e3_up H (H l0 2) (H l0 1) l1) = H7
      replace h := h H7 hH7.symm
      obtain ⟨o13, o14, o15, o16, h⟩ := h
      refine e3_K [0, 3, 0, 3, 0, 10] 44 [(2, l0), (2, l1)] [] (e3_up H7 (H7 l0 3) (H7 l1 2) l1) (G) (wZ L xs) (M := tbM93) rfl rfl ⟨o13, o14, ⟨o15, o16⟩, trivial⟩ ?_
      generalize hH12 : (e3_up H7 (H7 l0 3) (H7 l1 2) l1) = H12
      replace h := h H12 hH12.symm
      obtain ⟨o18, o19, h⟩ := h
      refine e3_K [0, 0, 3, 0, 0, 3] 54 [(2, l0), (2, l1)] [] (e3_up H12 l0 1 (e3_w32 ((H12 l0 1) + 1))) (G) (wZ L xs) (M := tbM93) rfl rfl ⟨o18, ⟨o19, trivial⟩, trivial⟩ ?_
      generalize hH17 : (e3_up H12 l0 1 (e3_w32 ((H12 l0 1) + 1))) = H17
      replace h := h H17 hH17.symm
      refine e3_fgt [false, false] ?_
      exact sO_addTest_54 L xs Q _ _ h
    · replace h := h.2 hc
      refine e3_fgt [false, false] ?_
      exact sO_addTest_54 L xs Q _ _ h
  · replace h := h.2 hc
    refine e3_fgt [false, false] ?_
    exact sO_addTest_54 L xs Q _ _ h
/-- LetterPost$Row.layChain(LLetterPost$Pattern;II)V -/
def wO_layChain_45 (R : Int → Int → Int → Int → e3_H → e3_G → (e3_H → e3_G → Prop) → Prop) (Q : e3_H → e3_G → Prop) (k6 : Int → Int → Int → Int → e3_H → e3_G → Prop) (l0 : Int) (l3 : Int) (l4 : Int) (l5 : Int) (H : e3_H) (G : e3_G) : Prop :=
  (e3_ob G 10 l5) ∧ (k6 l0 l3 l4 (H l5 8) H G)
def wO_layChain_6 (R : Int → Int → Int → Int → e3_H → e3_G → (e3_H → e3_G → Prop) → Prop) (Q : e3_H → e3_G → Prop) : Nat → Int → Int → Int → Int → e3_H → e3_G → Prop
  | 0, _, _, _, _, _, _ => False
  | nn + 1, l0, l3, l4, l5, H, G => (((l5 : Int) < 0 → Q H G) ∧ (¬ ((l5 : Int) < 0) → (e3_ob G 10 l5) ∧ (wA_chainWays (fun x4 H2 G3 => (((0 : Int) < x4 → ((x4 : Int) ≠ 0) ∧ (e3_ob G3 11 l0) ∧ (R l0 l5 (e3_div l4 x4) l3 H2 G3 (fun H6 G7 => ((x4 : Int) ≠ 0) ∧ (wO_layChain_45 R Q (fun l0 l3 l4 l5 H G => wO_layChain_6 R Q nn l0 l3 l4 l5 H G) l0 l3 (e3_rem l4 x4) l5 H6 G7)))) ∧ (¬ ((0 : Int) < x4) → (wO_layChain_45 R Q (fun l0 l3 l4 l5 H G => wO_layChain_6 R Q nn l0 l3 l4 l5 H G) l0 l3 l4 l5 H2 G3)))) (H l5 8) H G)))
def wO_layChain (R : Int → Int → Int → Int → e3_H → e3_G → (e3_H → e3_G → Prop) → Prop) (Q : e3_H → e3_G → Prop) (l0 : Int) (l1 : Int) (l2 : Int) (l3 : Int) (H : e3_H) (G : e3_G) : Prop :=
  (∃ n, wO_layChain_6 R Q n l0 l3 l2 l1 H G)
set_option maxRecDepth 100000 in
set_option maxHeartbeats 4000000 in
theorem sO_layChain_45 (L : Nat) (xs : Nat → Int32) (n : Nat) (R : Int → Int → Int → Int → e3_H → e3_G → (e3_H → e3_G → Prop) → Prop) (hR : ∀ (l0 : Int) (l1 : Int) (l2 : Int) (l3 : Int) (H : e3_H) (G : e3_G) (Q : e3_H → e3_G → Prop), R l0 l1 l2 l3 H G Q → e3_Ev (wB L xs) (3 + 3 * n) (66 + 68 * n) 90 0 [(2, l0), (2, l1), (0, l2), (0, l3)] [] H G (e3_qv Q)) (Q : e3_H → e3_G → Prop) (k6 : Int → Int → Int → Int → e3_H → e3_G → Prop) (hk6 : ∀ (l0 : Int) (l3 : Int) (l4 : Int) (l5 : Int) (H : e3_H) (G : e3_G), k6 l0 l3 l4 l5 H G → e3_Ev (wB L xs) (4 + 3 * n) (89 + 68 * n) 89 6 [(2, l0), (3, 0), (3, 0), (0, l3), (0, l4), (2, l5), (3, 0)] [] H G (e3_qv Q)) (l0 : Int) (l3 : Int) (l4 : Int) (l5 : Int) (H : e3_H) (G : e3_G) (h : wO_layChain_45 R Q k6 l0 l3 l4 l5 H G) : e3_Ev (wB L xs) (4 + 3 * n) (89 + 68 * n) 89 45 [(2, l0), (3, 0), (3, 0), (0, l3), (0, l4), (2, l5), (3, 0)] [] H G (e3_qv Q) := by
  unfold wO_layChain_45 at h
  obtain ⟨o1, h⟩ := h
  refine e3_K [0, 3, 0, 0] 6 [(2, l0), (3, 0), (3, 0), (0, l3), (0, l4), (2, (H l5 8)), (3, 0)] [] (H) (G) (wZ L xs) (M := tbM89) rfl rfl ⟨o1, trivial⟩ ?_
  exact hk6 _ _ _ _ _ _ h
set_option maxRecDepth 100000 in
set_option maxHeartbeats 4000000 in
theorem sO_layChain_6 (L : Nat) (xs : Nat → Int32) (n : Nat) (R : Int → Int → Int → Int → e3_H → e3_G → (e3_H → e3_G → Prop) → Prop) (hR : ∀ (l0 : Int) (l1 : Int) (l2 : Int) (l3 : Int) (H : e3_H) (G : e3_G) (Q : e3_H → e3_G → Prop), R l0 l1 l2 l3 H G Q → e3_Ev (wB L xs) (3 + 3 * n) (66 + 68 * n) 90 0 [(2, l0), (2, l1), (0, l2), (0, l3)] [] H G (e3_qv Q)) (Q : e3_H → e3_G → Prop) : ∀ (nl : Nat) (l0 : Int) (l3 : Int) (l4 : Int) (l5 : Int) (H : e3_H) (G : e3_G), wO_layChain_6 R Q nl l0 l3 l4 l5 H G → e3_Ev (wB L xs) (4 + 3 * n) (89 + 68 * n) 89 6 [(2, l0), (3, 0), (3, 0), (0, l3), (0, l4), (2, l5), (3, 0)] [] H G (e3_qv Q) := by
  intro nl
  induction nl with
  | zero => intro l0 l3 l4 l5 H G h; exact h.elim
  | succ nn ih =>
    intro l0 l3 l4 l5 H G h
    have h : (((l5 : Int) < 0 → Q H G) ∧ (¬ ((l5 : Int) < 0) → (e3_ob G 10 l5) ∧ (wA_chainWays (fun x4 H2 G3 => (((0 : Int) < x4 → ((x4 : Int) ≠ 0) ∧ (e3_ob G3 11 l0) ∧ (R l0 l5 (e3_div l4 x4) l3 H2 G3 (fun H6 G7 => ((x4 : Int) ≠ 0) ∧ (wO_layChain_45 R Q (fun l0 l3 l4 l5 H G => wO_layChain_6 R Q nn l0 l3 l4 l5 H G) l0 l3 (e3_rem l4 x4) l5 H6 G7)))) ∧ (¬ ((0 : Int) < x4) → (wO_layChain_45 R Q (fun l0 l3 l4 l5 H G => wO_layChain_6 R Q nn l0 l3 l4 l5 H G) l0 l3 l4 l5 H2 G3)))) (H l5 8) H G))) := h
    refine e3_K [0] 8 [(2, l0), (3, 0), (3, 0), (0, l3), (0, l4), (2, l5), (3, 0)] [(2, l5)] (H) (G) (wZ L xs) (M := tbM89) rfl rfl trivial ?_
    refine e3_br (M := tbM89) rfl rfl rfl Iff.rfl (fun hc => ?_) (fun hc => ?_)
    · replace h := h.1 hc
      exact e3_retv (M := tbM89) rfl rfl rfl ⟨rfl, h⟩
    · replace h := h.2 hc
      obtain ⟨o1, h⟩ := h
      refine e3_K [0, 3] 16 [(2, l0), (3, 0), (3, 0), (0, l3), (0, l4), (2, l5), (3, 0)] [(2, (H l5 8))] (H) (G) (wZ L xs) (M := tbM89) rfl rfl ⟨o1, trivial⟩ ?_
      refine e3_call (o := 0) (k := 70) (M2 := tbM70) (f1 := 1) (w1 := 21) (as := [(2, (H l5 8))]) (rest := []) (M := tbM89) rfl rfl rfl trivial (by omega) (by show 21 + (19 + 3) ≤ (89 + 68 * n); omega) (Nat.le_of_ble_eq_true rfl) ?_
      refine e3_mono (sA_chainWays L xs _ _ _ _ h) (fun r H2 G3 h => ?_)
      obtain ⟨x4, rfl, h⟩ := h
      change e3_Ev _ _ _ _ 19 [(2, l0), (3, 0), (3, 0), (0, l3), (0, l4), (2, l5), (3, 0)] [(0, x4)] H2 G3 _
      refine e3_K [0, 0] 23 [(2, l0), (3, 0), (3, 0), (0, l3), (0, l4), (2, l5), (0, x4)] [(0, x4)] (H2) (G3) (wZ L xs) (M := tbM89) rfl rfl trivial ?_
      refine e3_br (M := tbM89) rfl rfl rfl Iff.rfl (fun hc => ?_) (fun hc => ?_)
      · replace h := h.1 hc
        obtain ⟨o5, h⟩ := h
        refine e3_K [0, 0, 0, 0, 1, 0] 35 [(2, l0), (3, 0), (3, 0), (0, l3), (0, l4), (2, l5), (0, x4)] [(0, l3), (0, (e3_div l4 x4)), (2, l5), (2, l0)] (H2) (G3) (wZ L xs) (M := tbM89) rfl rfl ⟨o5, trivial⟩ ?_
        obtain ⟨oz, h⟩ := h
        refine e3_call (o := 1) (k := 90) (M2 := tbM90) (f1 := (3 + 3 * n)) (w1 := (66 + 68 * n)) (as := [(2, l0), (2, l5), (0, (e3_div l4 x4)), (0, l3)]) (rest := []) (M := tbM89) rfl rfl rfl oz (by omega) (by show (66 + 68 * n) + (19 + 4) ≤ (89 + 68 * n); omega) (Nat.le_of_ble_eq_true rfl) ?_
        refine e3_mono (hR _ _ _ _ _ _ _ h) (fun r H6 G7 h => ?_)
        obtain ⟨rfl, h⟩ := h
        change e3_Ev _ _ _ _ 38 [(2, l0), (3, 0), (3, 0), (0, l3), (0, l4), (2, l5), (0, x4)] [] H6 G7 _
        obtain ⟨o9, h⟩ := h
        refine e3_K [0, 0, 1, 0] 45 [(2, l0), (3, 0), (3, 0), (0, l3), (0, (e3_rem l4 x4)), (2, l5), (0, x4)] [] (H6) (G7) (wZ L xs) (M := tbM89) rfl rfl ⟨o9, trivial⟩ ?_
        refine e3_fgt [true, false, false, true, true, true, false] ?_
        exact sO_layChain_45 L xs n R hR Q (fun l0 l3 l4 l5 H G => wO_layChain_6 R Q nn l0 l3 l4 l5 H G) ih _ _ _ _ _ _ h
      · replace h := h.2 hc
        refine e3_fgt [true, false, false, true, true, true, false] ?_
        exact sO_layChain_45 L xs n R hR Q (fun l0 l3 l4 l5 H G => wO_layChain_6 R Q nn l0 l3 l4 l5 H G) ih _ _ _ _ _ _ h
set_option maxRecDepth 100000 in
set_option maxHeartbeats 4000000 in
theorem sO_layChain (L : Nat) (xs : Nat → Int32) (n : Nat) (R : Int → Int → Int → Int → e3_H → e3_G → (e3_H → e3_G → Prop) → Prop) (hR : ∀ (l0 : Int) (l1 : Int) (l2 : Int) (l3 : Int) (H : e3_H) (G : e3_G) (Q : e3_H → e3_G → Prop), R l0 l1 l2 l3 H G Q → e3_Ev (wB L xs) (3 + 3 * n) (66 + 68 * n) 90 0 [(2, l0), (2, l1), (0, l2), (0, l3)] [] H G (e3_qv Q)) (Q : e3_H → e3_G → Prop) (l0 : Int) (l1 : Int) (l2 : Int) (l3 : Int) (H : e3_H) (G : e3_G) (h : wO_layChain R Q l0 l1 l2 l3 H G) : e3_Ev (wB L xs) (4 + 3 * n) (89 + 68 * n) 89 0 [(2, l0), (2, l1), (0, l2), (0, l3), (3, 0), (3, 0), (3, 0)] [] H G (e3_qv Q) := by
  unfold wO_layChain at h
  refine e3_K [0, 0, 0, 0] 6 [(2, l0), (2, l1), (0, l2), (0, l3), (0, l2), (2, l1), (3, 0)] [] (H) (G) (wZ L xs) (M := tbM89) rfl rfl trivial ?_
  refine e3_fgt [true, false, false, true, true, true, false] ?_
  obtain ⟨nl, h⟩ := h
  exact sO_layChain_6 L xs n R hR Q nl _ _ _ _ _ _ h
/-- LetterPost$Row.lay(LLetterPost$Pattern;II)V -/
def wO_lay_73 (R : Int → Int → Int → Int → e3_H → e3_G → (e3_H → e3_G → Prop) → Prop) (Q : e3_H → e3_G → Prop)  (H : e3_H) (G : e3_G) : Prop :=
  Q H G
def wO_lay : Nat → Int → Int → Int → Int → e3_H → e3_G → (e3_H → e3_G → Prop) → Prop
  | 0, _, _, _, _, _, _, _ => False
  | n + 1, l0, l1, l2, l3, H, G, Q => (((6 : Int) < l3 → Q H G) ∧ (¬ ((6 : Int) < l3) → (e3_ob G 10 l1) ∧ (e3_ob G 10 l1) ∧ (e3_ob G 11 l0) ∧ (wO_holdName (fun H3 G4 => (e3_ob G4 10 l1) ∧ (e3_ob G4 10 l1) ∧ (e3_ob G4 11 l0) ∧ (wO_holdName (fun H8 G9 => (e3_ob G9 10 l1) ∧ ((((H8 l1 0) : Int) = 3 → (e3_ob G9 11 l0) ∧ (wO_layAlternative (wO_lay n) (fun H12 G13 => (wO_lay_73 (wO_lay n) Q H12 G13)) l0 l1 l2 l3 H8 G9)) ∧ (¬ (((H8 l1 0) : Int) = 3) → (e3_ob G9 10 l1) ∧ ((((H8 l1 0) : Int) = 0 → (wO_lay_73 (wO_lay n) Q H8 G9)) ∧ (¬ (((H8 l1 0) : Int) = 0) → (e3_ob G9 11 l0) ∧ (wO_addTest (fun H16 G17 => (e3_ob G17 10 l1) ∧ (e3_ob G17 11 l0) ∧ (wO_layChain (wO_lay n) (fun H20 G21 => (wO_lay_73 (wO_lay n) Q H20 G21)) l0 (H16 l1 7) l2 (e3_w32 (l3 + 1)) H16 G17)) l0 l1 H8 G9)))))) l0 (H3 l1 6) (H3 l1 2) H3 G4)) l0 (H l1 5) (H l1 2) H G)))
set_option maxRecDepth 100000 in
set_option maxHeartbeats 4000000 in
theorem sO_lay_73 (L : Nat) (xs : Nat → Int32) (n : Nat) (R : Int → Int → Int → Int → e3_H → e3_G → (e3_H → e3_G → Prop) → Prop) (hR : ∀ (l0 : Int) (l1 : Int) (l2 : Int) (l3 : Int) (H : e3_H) (G : e3_G) (Q : e3_H → e3_G → Prop), R l0 l1 l2 l3 H G Q → e3_Ev (wB L xs) (3 + 3 * n) (66 + 68 * n) 90 0 [(2, l0), (2, l1), (0, l2), (0, l3)] [] H G (e3_qv Q)) (Q : e3_H → e3_G → Prop)  (H : e3_H) (G : e3_G) (h : wO_lay_73 R Q  H G) : e3_Ev (wB L xs) (3 + 3 * (n + 1)) (66 + 68 * (n + 1)) 90 73 [(3, 0), (3, 0), (3, 0), (3, 0)] [] H G (e3_qv Q) := by
  unfold wO_lay_73 at h
  exact e3_retv (M := tbM90) rfl rfl rfl ⟨rfl, h⟩
set_option maxRecDepth 100000 in
set_option maxHeartbeats 4000000 in
theorem sO_lay (L : Nat) (xs : Nat → Int32) : ∀ (n : Nat) (l0 : Int) (l1 : Int) (l2 : Int) (l3 : Int) (H : e3_H) (G : e3_G) (Q : e3_H → e3_G → Prop), wO_lay n l0 l1 l2 l3 H G Q → e3_Ev (wB L xs) (3 + 3 * n) (66 + 68 * n) 90 0 [(2, l0), (2, l1), (0, l2), (0, l3)] [] H G (e3_qv Q) := by
  intro n
  induction n with
  | zero => intro l0 l1 l2 l3 H G Q h; exact h.elim
  | succ n hR =>
    intro l0 l1 l2 l3 H G Q h
    have h : (((6 : Int) < l3 → Q H G) ∧ (¬ ((6 : Int) < l3) → (e3_ob G 10 l1) ∧ (e3_ob G 10 l1) ∧ (e3_ob G 11 l0) ∧ (wO_holdName (fun H3 G4 => (e3_ob G4 10 l1) ∧ (e3_ob G4 10 l1) ∧ (e3_ob G4 11 l0) ∧ (wO_holdName (fun H8 G9 => (e3_ob G9 10 l1) ∧ ((((H8 l1 0) : Int) = 3 → (e3_ob G9 11 l0) ∧ (wO_layAlternative (wO_lay n) (fun H12 G13 => (wO_lay_73 (wO_lay n) Q H12 G13)) l0 l1 l2 l3 H8 G9)) ∧ (¬ (((H8 l1 0) : Int) = 3) → (e3_ob G9 10 l1) ∧ ((((H8 l1 0) : Int) = 0 → (wO_lay_73 (wO_lay n) Q H8 G9)) ∧ (¬ (((H8 l1 0) : Int) = 0) → (e3_ob G9 11 l0) ∧ (wO_addTest (fun H16 G17 => (e3_ob G17 10 l1) ∧ (e3_ob G17 11 l0) ∧ (wO_layChain (wO_lay n) (fun H20 G21 => (wO_lay_73 (wO_lay n) Q H20 G21)) l0 (H16 l1 7) l2 (e3_w32 (l3 + 1)) H16 G17)) l0 l1 H8 G9)))))) l0 (H3 l1 6) (H3 l1 2) H3 G4)) l0 (H l1 5) (H l1 2) H G))) := h
    generalize hRR : wO_lay n = R at hR h
    refine e3_K [0, 0] 3 [(2, l0), (2, l1), (0, l2), (0, l3)] [(0, 6), (0, l3)] (H) (G) (wZ L xs) (M := tbM90) rfl rfl trivial ?_
    refine e3_br (M := tbM90) rfl rfl rfl Iff.rfl (fun hc => ?_) (fun hc => ?_)
    · replace h := h.1 hc
      exact e3_retv (M := tbM90) rfl rfl rfl ⟨rfl, h⟩
    · replace h := h.2 hc
      obtain ⟨o1, o2, h⟩ := h
      refine e3_K [0, 0, 3, 0, 3] 16 [(2, l0), (2, l1), (0, l2), (0, l3)] [(0, (H l1 2)), (1, (H l1 5)), (2, l0)] (H) (G) (wZ L xs) (M := tbM90) rfl rfl ⟨o1, o2, trivial⟩ ?_
      obtain ⟨oz, h⟩ := h
      refine e3_call (o := 1) (k := 91) (M2 := tbM91) (f1 := 1) (w1 := 23) (as := [(2, l0), (1, (H l1 5)), (0, (H l1 2))]) (rest := []) (M := tbM90) rfl rfl rfl oz (by omega) (by show 23 + (19 + 5) ≤ (66 + 68 * (n + 1)); omega) (Nat.le_of_ble_eq_true rfl) ?_
      refine e3_mono (sO_holdName L xs _ _ _ _ _ _ h) (fun r H3 G4 h => ?_)
      obtain ⟨rfl, h⟩ := h
      change e3_Ev _ _ _ _ 19 [(2, l0), (2, l1), (0, l2), (0, l3)] [] H3 G4 _
      obtain ⟨o6, o7, h⟩ := h
      refine e3_K [0, 0, 3, 0, 3] 28 [(2, l0), (2, l1), (0, l2), (0, l3)] [(0, (H3 l1 2)), (1, (H3 l1 6)), (2, l0)] (H3) (G4) (wZ L xs) (M := tbM90) rfl rfl ⟨o6, o7, trivial⟩ ?_
      obtain ⟨oz, h⟩ := h
      refine e3_call (o := 1) (k := 91) (M2 := tbM91) (f1 := 1) (w1 := 23) (as := [(2, l0), (1, (H3 l1 6)), (0, (H3 l1 2))]) (rest := []) (M := tbM90) rfl rfl rfl oz (by omega) (by show 23 + (19 + 5) ≤ (66 + 68 * (n + 1)); omega) (Nat.le_of_ble_eq_true rfl) ?_
      refine e3_mono (sO_holdName L xs _ _ _ _ _ _ h) (fun r H8 G9 h => ?_)
      obtain ⟨rfl, h⟩ := h
      change e3_Ev _ _ _ _ 31 [(2, l0), (2, l1), (0, l2), (0, l3)] [] H8 G9 _
      obtain ⟨o11, h⟩ := h
      refine e3_K [0, 3, 0] 36 [(2, l0), (2, l1), (0, l2), (0, l3)] [(0, 3), (0, (H8 l1 0))] (H8) (G9) (wZ L xs) (M := tbM90) rfl rfl ⟨o11, trivial⟩ ?_
      refine e3_br (M := tbM90) rfl rfl rfl Iff.rfl (fun hc => ?_) (fun hc => ?_)
      · replace h := h.1 hc
        refine e3_K [0, 0, 0, 0] 43 [(2, l0), (2, l1), (0, l2), (0, l3)] [(0, l3), (0, l2), (2, l1), (2, l0)] (H8) (G9) (wZ L xs) (M := tbM90) rfl rfl trivial ?_
        obtain ⟨oz, h⟩ := h
        refine e3_call (o := 1) (k := 92) (M2 := tbM92) (f1 := (4 + 3 * n)) (w1 := (89 + 68 * n)) (as := [(2, l0), (2, l1), (0, l2), (0, l3)]) (rest := []) (M := tbM90) rfl rfl rfl oz (by omega) (by show (89 + 68 * n) + (19 + 6) ≤ (66 + 68 * (n + 1)); omega) (Nat.le_of_ble_eq_true rfl) ?_
        refine e3_mono (sO_layAlternative L xs n R hR _ _ _ _ _ _ _ h) (fun r H12 G13 h => ?_)
        obtain ⟨rfl, h⟩ := h
        change e3_Ev _ _ _ _ 46 [(2, l0), (2, l1), (0, l2), (0, l3)] [] H12 G13 _
        refine e3_K [0] 73 [(2, l0), (2, l1), (0, l2), (0, l3)] [] (H12) (G13) (wZ L xs) (M := tbM90) rfl rfl trivial ?_
        refine e3_fgt [false, false, false, false] ?_
        exact sO_lay_73 L xs n R hR Q _ _ h
      · replace h := h.2 hc
        obtain ⟨o15, h⟩ := h
        refine e3_K [0, 3] 53 [(2, l0), (2, l1), (0, l2), (0, l3)] [(0, (H8 l1 0))] (H8) (G9) (wZ L xs) (M := tbM90) rfl rfl ⟨o15, trivial⟩ ?_
        refine e3_br (M := tbM90) rfl rfl rfl Iff.rfl (fun hc => ?_) (fun hc => ?_)
        · replace h := h.1 hc
          refine e3_fgt [false, false, false, false] ?_
          exact sO_lay_73 L xs n R hR Q _ _ h
        · replace h := h.2 hc
          refine e3_K [0, 0] 58 [(2, l0), (2, l1), (0, l2), (0, l3)] [(2, l1), (2, l0)] (H8) (G9) (wZ L xs) (M := tbM90) rfl rfl trivial ?_
          obtain ⟨oz, h⟩ := h
          refine e3_call (o := 1) (k := 93) (M2 := tbM93) (f1 := 0) (w1 := 0) (as := [(2, l0), (2, l1)]) (rest := []) (M := tbM90) rfl rfl rfl oz (by omega) (by show 0 + (19 + 2) ≤ (66 + 68 * (n + 1)); omega) (Nat.le_of_ble_eq_true rfl) ?_
          refine e3_mono (sO_addTest L xs _ _ _ _ _ h) (fun r H16 G17 h => ?_)
          obtain ⟨rfl, h⟩ := h
          change e3_Ev _ _ _ _ 61 [(2, l0), (2, l1), (0, l2), (0, l3)] [] H16 G17 _
          obtain ⟨o19, h⟩ := h
          refine e3_K [0, 0, 3, 0, 0, 0, 0] 70 [(2, l0), (2, l1), (0, l2), (0, l3)] [(0, (e3_w32 (l3 + 1))), (0, l2), (2, (H16 l1 7)), (2, l0)] (H16) (G17) (wZ L xs) (M := tbM90) rfl rfl ⟨o19, trivial⟩ ?_
          obtain ⟨oz, h⟩ := h
          refine e3_call (o := 1) (k := 89) (M2 := tbM89) (f1 := (4 + 3 * n)) (w1 := (89 + 68 * n)) (as := [(2, l0), (2, (H16 l1 7)), (0, l2), (0, (e3_w32 (l3 + 1)))]) (rest := []) (M := tbM90) rfl rfl rfl oz (by omega) (by show (89 + 68 * n) + (19 + 7) ≤ (66 + 68 * (n + 1)); omega) (Nat.le_of_ble_eq_true rfl) ?_
          refine e3_mono (sO_layChain L xs n R hR _ _ _ _ _ _ _ h) (fun r H20 G21 h => ?_)
          obtain ⟨rfl, h⟩ := h
          change e3_Ev _ _ _ _ 73 [(2, l0), (2, l1), (0, l2), (0, l3)] [] H20 G21 _
          refine e3_fgt [false, false, false, false] ?_
          exact sO_lay_73 L xs n R hR Q _ _ h
/-- LetterPost$Function.layRows()V -/
def wF_layRows_93 (Q : e3_H → e3_G → Prop) (k7 : Int → Int → e3_H → e3_G → Prop) (l0 : Int) (l1 : Int) (H : e3_H) (G : e3_G) : Prop :=
  (k7 l0 (e3_w32 (l1 + 1)) H G)
def wF_layRows_24 (Q : e3_H → e3_G → Prop) (k7 : Int → Int → e3_H → e3_G → Prop) : Nat → Int → Int → Int → Int → e3_H → e3_G → Prop
  | 0, _, _, _, _, _, _ => False
  | nn + 1, l0, l1, l2, l3, H, G => (e3_ob G 9 l2) ∧ (((l3 : Int) < (H l2 3) → (e3_ob G 8 l0) ∧ ((((H l0 5) : Int) < 40 → ∀ (H3 : e3_H) (G4 : e3_G), H3 = e3_nw H (G.length : Int) (e3_dz (wFc.getD 11 [])) → G4 = G ++ [(111, 5)] → (e3_ob G4 8 l0) ∧ ((0 : Int) ≤ (G.length : Int)) ∧ (wO_init (fun H6 G7 => (e3_ob G7 9 l2) ∧ (e3_ob G7 11 (G.length : Int)) ∧ (wO_layChain (wO_lay 9) (fun H10 G11 => (e3_ob G11 8 l0) ∧ (e3_ob G11 8 l0) ∧ (e3_oa G11 6 (H10 l0 6) (H10 l0 5)) ∧ (((G.length : Int) : Int) < 0 ∨ e3_ob G11 11 (G.length : Int)) ∧ ∀ H13 : e3_H, H13 = e3_up H10 (H10 l0 6) (H10 l0 5) (G.length : Int) → (e3_ob G11 8 l0) ∧ (e3_ob G11 8 l0) ∧ ∀ H18 : e3_H, H18 = e3_up H13 l0 5 (e3_w32 ((H13 l0 5) + 1)) → (wF_layRows_24 Q k7 nn l0 l1 l2 (e3_w32 (l3 + 1)) H18 G11)) (G.length : Int) (H6 l2 2) l3 0 H6 G7)) (G.length : Int) l2 (H3 l0 7) H3 G4)) ∧ (¬ (((H l0 5) : Int) < 40) → (wF_layRows_93 Q k7 l0 l1 H G)))) ∧ (¬ ((l3 : Int) < (H l2 3)) → (wF_layRows_93 Q k7 l0 l1 H G)))
def wF_layRows_7 (Q : e3_H → e3_G → Prop) : Nat → Int → Int → e3_H → e3_G → Prop
  | 0, _, _, _, _ => False
  | nn + 1, l0, l1, H, G => (e3_ob G 8 l0) ∧ (((l1 : Int) < (H l0 3) → (e3_ob G 8 l0) ∧ (e3_oa G 5 (H l0 4) l1) ∧ (∃ n, wF_layRows_24 Q (fun l0 l1 H G => wF_layRows_7 Q nn l0 l1 H G) n l0 l1 (H (H l0 4) l1) 0 H G)) ∧ (¬ ((l1 : Int) < (H l0 3)) → Q H G))
def wF_layRows (Q : e3_H → e3_G → Prop) (l0 : Int) (H : e3_H) (G : e3_G) : Prop :=
  (e3_ob G 8 l0) ∧ ∀ H1 : e3_H, H1 = e3_up H l0 5 0 → (∃ n, wF_layRows_7 Q n l0 0 H1 G)
set_option maxRecDepth 100000 in
set_option maxHeartbeats 4000000 in
theorem sF_layRows_93 (L : Nat) (xs : Nat → Int32) (Q : e3_H → e3_G → Prop) (k7 : Int → Int → e3_H → e3_G → Prop) (hk7 : ∀ (l0 : Int) (l1 : Int) (H : e3_H) (G : e3_G), k7 l0 l1 H G → e3_Ev (wB L xs) 32 727 87 7 [(2, l0), (0, l1), (3, 0), (3, 0), (3, 0)] [] H G (e3_qv Q)) (l0 : Int) (l1 : Int) (H : e3_H) (G : e3_G) (h : wF_layRows_93 Q k7 l0 l1 H G) : e3_Ev (wB L xs) 32 727 87 93 [(2, l0), (0, l1), (3, 0), (3, 0), (3, 0)] [] H G (e3_qv Q) := by
  unfold wF_layRows_93 at h
  refine e3_K [0, 0] 7 [(2, l0), (0, (e3_w32 (l1 + 1))), (3, 0), (3, 0), (3, 0)] [] (H) (G) (wZ L xs) (M := tbM87) rfl rfl trivial ?_
  exact hk7 _ _ _ _ h
set_option maxRecDepth 100000 in
set_option maxHeartbeats 4000000 in
theorem sF_layRows_24 (L : Nat) (xs : Nat → Int32) (Q : e3_H → e3_G → Prop) (k7 : Int → Int → e3_H → e3_G → Prop) (hk7 : ∀ (l0 : Int) (l1 : Int) (H : e3_H) (G : e3_G), k7 l0 l1 H G → e3_Ev (wB L xs) 32 727 87 7 [(2, l0), (0, l1), (3, 0), (3, 0), (3, 0)] [] H G (e3_qv Q)) : ∀ (nl : Nat) (l0 : Int) (l1 : Int) (l2 : Int) (l3 : Int) (H : e3_H) (G : e3_G), wF_layRows_24 Q k7 nl l0 l1 l2 l3 H G → e3_Ev (wB L xs) 32 727 87 24 [(2, l0), (0, l1), (2, l2), (0, l3), (3, 0)] [] H G (e3_qv Q) := by
  intro nl
  induction nl with
  | zero => intro l0 l1 l2 l3 H G h; exact h.elim
  | succ nn ih =>
    intro l0 l1 l2 l3 H G h
    have h : (e3_ob G 9 l2) ∧ (((l3 : Int) < (H l2 3) → (e3_ob G 8 l0) ∧ ((((H l0 5) : Int) < 40 → ∀ (H3 : e3_H) (G4 : e3_G), H3 = e3_nw H (G.length : Int) (e3_dz (wFc.getD 11 [])) → G4 = G ++ [(111, 5)] → (e3_ob G4 8 l0) ∧ ((0 : Int) ≤ (G.length : Int)) ∧ (wO_init (fun H6 G7 => (e3_ob G7 9 l2) ∧ (e3_ob G7 11 (G.length : Int)) ∧ (wO_layChain (wO_lay 9) (fun H10 G11 => (e3_ob G11 8 l0) ∧ (e3_ob G11 8 l0) ∧ (e3_oa G11 6 (H10 l0 6) (H10 l0 5)) ∧ (((G.length : Int) : Int) < 0 ∨ e3_ob G11 11 (G.length : Int)) ∧ ∀ H13 : e3_H, H13 = e3_up H10 (H10 l0 6) (H10 l0 5) (G.length : Int) → (e3_ob G11 8 l0) ∧ (e3_ob G11 8 l0) ∧ ∀ H18 : e3_H, H18 = e3_up H13 l0 5 (e3_w32 ((H13 l0 5) + 1)) → (wF_layRows_24 Q k7 nn l0 l1 l2 (e3_w32 (l3 + 1)) H18 G11)) (G.length : Int) (H6 l2 2) l3 0 H6 G7)) (G.length : Int) l2 (H3 l0 7) H3 G4)) ∧ (¬ (((H l0 5) : Int) < 40) → (wF_layRows_93 Q k7 l0 l1 H G)))) ∧ (¬ ((l3 : Int) < (H l2 3)) → (wF_layRows_93 Q k7 l0 l1 H G))) := h
    obtain ⟨o1, h⟩ := h
    refine e3_K [0, 0, 3] 29 [(2, l0), (0, l1), (2, l2), (0, l3), (3, 0)] [(0, (H l2 3)), (0, l3)] (H) (G) (wZ L xs) (M := tbM87) rfl rfl ⟨o1, trivial⟩ ?_
    refine e3_br (M := tbM87) rfl rfl rfl Iff.rfl (fun hc => ?_) (fun hc => ?_)
    · replace h := h.1 hc
      obtain ⟨o2, h⟩ := h
      refine e3_K [0, 3, 0] 38 [(2, l0), (0, l1), (2, l2), (0, l3), (3, 0)] [(0, 40), (0, (H l0 5))] (H) (G) (wZ L xs) (M := tbM87) rfl rfl ⟨o2, trivial⟩ ?_
      refine e3_br (M := tbM87) rfl rfl rfl Iff.rfl (fun hc => ?_) (fun hc => ?_)
      · replace h := h.1 hc
        refine e3_K [2] 44 [(2, l0), (0, l1), (2, l2), (0, l3), (3, 0)] [(2, (G.length : Int))] (e3_nw H (G.length : Int) (e3_dz (wFc.getD 11 []))) (G ++ [(111, 5)]) (wZ L xs) (M := tbM87) rfl rfl ⟨trivial, trivial⟩ ?_
        generalize hH3 : (e3_nw H (G.length : Int) (e3_dz (wFc.getD 11 []))) = H3
        generalize hG4 : (G ++ [(111, 5)]) = G4
        replace h := h H3 G4 hH3.symm hG4.symm
        obtain ⟨o5, h⟩ := h
        refine e3_K [0, 0, 0, 3] 50 [(2, l0), (0, l1), (2, l2), (0, l3), (3, 0)] [(0, (H3 l0 7)), (2, l2), (2, (G.length : Int)), (2, (G.length : Int))] (H3) (G4) (wZ L xs) (M := tbM87) rfl rfl ⟨o5, trivial⟩ ?_
        obtain ⟨oz, h⟩ := h
        refine e3_call (o := 0) (k := 88) (M2 := tbM88) (f1 := 1) (w1 := 40) (as := [(2, (G.length : Int)), (2, l2), (0, (H3 l0 7))]) (rest := [(2, (G.length : Int))]) (M := tbM87) rfl rfl rfl oz (Nat.le_of_ble_eq_true rfl) (Nat.le_of_ble_eq_true rfl) (Nat.le_of_ble_eq_true rfl) ?_
        refine e3_mono (sO_init L xs _ _ _ _ _ _ h) (fun r H6 G7 h => ?_)
        obtain ⟨rfl, h⟩ := h
        change e3_Ev _ _ _ _ 53 [(2, l0), (0, l1), (2, l2), (0, l3), (3, 0)] [(2, (G.length : Int))] H6 G7 _
        obtain ⟨o9, h⟩ := h
        refine e3_K [0, 0, 0, 3, 0, 0] 63 [(2, l0), (0, l1), (2, l2), (0, l3), (2, (G.length : Int))] [(0, 0), (0, l3), (2, (H6 l2 2)), (2, (G.length : Int))] (H6) (G7) (wZ L xs) (M := tbM87) rfl rfl ⟨o9, trivial⟩ ?_
        obtain ⟨oz, h⟩ := h
        refine e3_call (o := 1) (k := 89) (M2 := tbM89) (f1 := (4 + 3 * 9)) (w1 := (89 + 68 * 9)) (as := [(2, (G.length : Int)), (2, (H6 l2 2)), (0, l3), (0, 0)]) (rest := []) (M := tbM87) rfl rfl rfl oz (Nat.le_of_ble_eq_true rfl) (Nat.le_of_ble_eq_true rfl) (Nat.le_of_ble_eq_true rfl) ?_
        refine e3_mono (sO_layChain L xs 9 (wO_lay 9) (sO_lay L xs 9) _ _ _ _ _ _ _ h) (fun r H10 G11 h => ?_)
        obtain ⟨rfl, h⟩ := h
        change e3_Ev _ _ _ _ 66 [(2, l0), (0, l1), (2, l2), (0, l3), (2, (G.length : Int))] [] H10 G11 _
        obtain ⟨o14, o15, o16, o17, h⟩ := h
        refine e3_K [0, 3, 0, 3, 0, 9] 77 [(2, l0), (0, l1), (2, l2), (0, l3), (2, (G.length : Int))] [] (e3_up H10 (H10 l0 6) (H10 l0 5) (G.length : Int)) (G11) (wZ L xs) (M := tbM87) rfl rfl ⟨o14, o15, ⟨o16, o17⟩, trivial⟩ ?_
        generalize hH13 : (e3_up H10 (H10 l0 6) (H10 l0 5) (G.length : Int)) = H13
        replace h := h H13 hH13.symm
        obtain ⟨o19, o20, h⟩ := h
        refine e3_K [0, 0, 3, 0, 0, 3] 87 [(2, l0), (0, l1), (2, l2), (0, l3), (2, (G.length : Int))] [] (e3_up H13 l0 5 (e3_w32 ((H13 l0 5) + 1))) (G11) (wZ L xs) (M := tbM87) rfl rfl ⟨o19, ⟨o20, trivial⟩, trivial⟩ ?_
        generalize hH18 : (e3_up H13 l0 5 (e3_w32 ((H13 l0 5) + 1))) = H18
        replace h := h H18 hH18.symm
        refine e3_K [0, 0] 24 [(2, l0), (0, l1), (2, l2), (0, (e3_w32 (l3 + 1))), (2, (G.length : Int))] [] (H18) (G11) (wZ L xs) (M := tbM87) rfl rfl trivial ?_
        refine e3_fgt [true, true, true, true, false] ?_
        exact ih _ _ _ _ _ _ h
      · replace h := h.2 hc
        refine e3_fgt [true, true, false, false, false] ?_
        exact sF_layRows_93 L xs Q k7 hk7 _ _ _ _ h
    · replace h := h.2 hc
      refine e3_fgt [true, true, false, false, false] ?_
      exact sF_layRows_93 L xs Q k7 hk7 _ _ _ _ h
set_option maxRecDepth 100000 in
set_option maxHeartbeats 4000000 in
theorem sF_layRows_7 (L : Nat) (xs : Nat → Int32) (Q : e3_H → e3_G → Prop) : ∀ (nl : Nat) (l0 : Int) (l1 : Int) (H : e3_H) (G : e3_G), wF_layRows_7 Q nl l0 l1 H G → e3_Ev (wB L xs) 32 727 87 7 [(2, l0), (0, l1), (3, 0), (3, 0), (3, 0)] [] H G (e3_qv Q) := by
  intro nl
  induction nl with
  | zero => intro l0 l1 H G h; exact h.elim
  | succ nn ih =>
    intro l0 l1 H G h
    have h : (e3_ob G 8 l0) ∧ (((l1 : Int) < (H l0 3) → (e3_ob G 8 l0) ∧ (e3_oa G 5 (H l0 4) l1) ∧ (∃ n, wF_layRows_24 Q (fun l0 l1 H G => wF_layRows_7 Q nn l0 l1 H G) n l0 l1 (H (H l0 4) l1) 0 H G)) ∧ (¬ ((l1 : Int) < (H l0 3)) → Q H G)) := h
    obtain ⟨o1, h⟩ := h
    refine e3_K [0, 0, 3] 12 [(2, l0), (0, l1), (3, 0), (3, 0), (3, 0)] [(0, (H l0 3)), (0, l1)] (H) (G) (wZ L xs) (M := tbM87) rfl rfl ⟨o1, trivial⟩ ?_
    refine e3_br (M := tbM87) rfl rfl rfl Iff.rfl (fun hc => ?_) (fun hc => ?_)
    · replace h := h.1 hc
      obtain ⟨o2, o3, h⟩ := h
      refine e3_K [0, 3, 0, 8, 0, 0, 0] 24 [(2, l0), (0, l1), (2, (H (H l0 4) l1)), (0, 0), (3, 0)] [] (H) (G) (wZ L xs) (M := tbM87) rfl rfl ⟨o2, o3, trivial⟩ ?_
      obtain ⟨nl, h⟩ := h
      exact sF_layRows_24 L xs Q (fun l0 l1 H G => wF_layRows_7 Q nn l0 l1 H G) ih nl _ _ _ _ _ _ h
    · replace h := h.2 hc
      exact e3_retv (M := tbM87) rfl rfl rfl ⟨rfl, h⟩
set_option maxRecDepth 100000 in
set_option maxHeartbeats 4000000 in
theorem sF_layRows (L : Nat) (xs : Nat → Int32) (Q : e3_H → e3_G → Prop) (l0 : Int) (H : e3_H) (G : e3_G) (h : wF_layRows Q l0 H G) : e3_Ev (wB L xs) 32 727 87 0 [(2, l0), (3, 0), (3, 0), (3, 0), (3, 0)] [] H G (e3_qv Q) := by
  unfold wF_layRows at h
  obtain ⟨o2, h⟩ := h
  refine e3_K [0, 0, 3] 5 [(2, l0), (3, 0), (3, 0), (3, 0), (3, 0)] [] (e3_up H l0 5 0) (G) (wZ L xs) (M := tbM87) rfl rfl ⟨⟨o2, trivial⟩, trivial⟩ ?_
  generalize hH1 : (e3_up H l0 5 0) = H1
  replace h := h H1 hH1.symm
  refine e3_K [0, 0] 7 [(2, l0), (0, 0), (3, 0), (3, 0), (3, 0)] [] (H1) (G) (wZ L xs) (M := tbM87) rfl rfl trivial ?_
  obtain ⟨nl, h⟩ := h
  exact sF_layRows_7 L xs Q nl _ _ _ _ h
/-- LetterPost$Reader.layRows()Z -/
def wR_layRows_43 (Q : Int → e3_H → e3_G → Prop) : Nat → Int → e3_H → e3_G → Prop
  | 0, _, _, _ => False
  | nn + 1, l1, H, G => (((l1 : Int) < (H 14 3) → ((0 : Int) ≤ l1 ∧ (l1 : Int) < 12) ∧ (e3_ob G 8 (H 15 l1)) ∧ (wF_layRows (fun H2 G3 => (wR_layRows_43 Q nn (e3_w32 (l1 + 1)) H2 G3)) (H 15 l1) H G)) ∧ (¬ ((l1 : Int) < (H 14 3)) → Q 1 H G))
def wR_layRows_2 (Q : Int → e3_H → e3_G → Prop) : Nat → Int → e3_H → e3_G → Prop
  | 0, _, _, _ => False
  | nn + 1, l1, H, G => (((l1 : Int) < (H 14 3) → ((0 : Int) ≤ l1 ∧ (l1 : Int) < 12) ∧ (e3_ob G 8 (H 15 l1)) ∧ (wF_firstWithTooManyRows (fun x4 H2 G3 => (((x4 : Int) < 0 → (wR_layRows_2 Q nn (e3_w32 (l1 + 1)) H2 G3)) ∧ (¬ ((x4 : Int) < 0) → (e3_ob G3 9 x4) ∧ (wR_failAt (fun x8 H6 G7 => ((x8 : Int) = 0 ∨ x8 = 1) ∧ Q x8 H6 G7) 9 (H2 x4 1) H2 G3)))) (H 15 l1) H G)) ∧ (¬ ((l1 : Int) < (H 14 3)) → (∃ n, wR_layRows_43 Q n 0 H G)))
def wR_layRows (Q : Int → e3_H → e3_G → Prop)  (H : e3_H) (G : e3_G) : Prop :=
  (∃ n, wR_layRows_2 Q n 0 H G)
set_option maxRecDepth 100000 in
set_option maxHeartbeats 4000000 in
theorem sR_layRows_43 (L : Nat) (xs : Nat → Int32) (Q : Int → e3_H → e3_G → Prop) : ∀ (nl : Nat) (l1 : Int) (H : e3_H) (G : e3_G), wR_layRows_43 Q nl l1 H G → e3_Ev (wB L xs) 33 751 85 43 [(2, 14), (0, l1), (3, 0)] [] H G (e3_q0 Q) := by
  intro nl
  induction nl with
  | zero => intro l1 H G h; exact h.elim
  | succ nn ih =>
    intro l1 H G h
    have h : (((l1 : Int) < (H 14 3) → ((0 : Int) ≤ l1 ∧ (l1 : Int) < 12) ∧ (e3_ob G 8 (H 15 l1)) ∧ (wF_layRows (fun H2 G3 => (wR_layRows_43 Q nn (e3_w32 (l1 + 1)) H2 G3)) (H 15 l1) H G)) ∧ (¬ ((l1 : Int) < (H 14 3)) → Q 1 H G)) := h
    refine e3_K [0, 0, 2] 48 [(2, 14), (0, l1), (3, 0)] [(0, (H 14 3)), (0, l1)] (H) (G) (wZ L xs) (M := tbM85) rfl rfl ⟨trivial, trivial⟩ ?_
    refine e3_br (M := tbM85) rfl rfl rfl Iff.rfl (fun hc => ?_) (fun hc => ?_)
    · replace h := h.1 hc
      obtain ⟨o1, h⟩ := h
      refine e3_K [0, 4, 0, 2] 57 [(2, 14), (0, l1), (3, 0)] [(2, (H 15 l1))] (H) (G) (wZ L xs) (M := tbM85) rfl rfl ⟨trivial, o1, trivial⟩ ?_
      obtain ⟨oz, h⟩ := h
      refine e3_call (o := 1) (k := 87) (M2 := tbM87) (f1 := 32) (w1 := 727) (as := [(2, (H 15 l1))]) (rest := []) (M := tbM85) rfl rfl rfl oz (Nat.le_of_ble_eq_true rfl) (Nat.le_of_ble_eq_true rfl) (Nat.le_of_ble_eq_true rfl) ?_
      refine e3_mono (sF_layRows L xs _ _ _ _ h) (fun r H2 G3 h => ?_)
      obtain ⟨rfl, h⟩ := h
      change e3_Ev _ _ _ _ 60 [(2, 14), (0, l1), (3, 0)] [] H2 G3 _
      refine e3_K [0, 0] 43 [(2, 14), (0, (e3_w32 (l1 + 1))), (3, 0)] [] (H2) (G3) (wZ L xs) (M := tbM85) rfl rfl trivial ?_
      exact ih _ _ _ h
    · replace h := h.2 hc
      refine e3_K [0] 67 [(2, 14), (0, l1), (3, 0)] [(0, 1)] (H) (G) (wZ L xs) (M := tbM85) rfl rfl trivial ?_
      exact e3_retb (M := tbM85) rfl rfl rfl (Or.inr rfl) ⟨_, rfl, h⟩
set_option maxRecDepth 100000 in
set_option maxHeartbeats 4000000 in
theorem sR_layRows_2 (L : Nat) (xs : Nat → Int32) (Q : Int → e3_H → e3_G → Prop) : ∀ (nl : Nat) (l1 : Int) (H : e3_H) (G : e3_G), wR_layRows_2 Q nl l1 H G → e3_Ev (wB L xs) 33 751 85 2 [(2, 14), (0, l1), (3, 0)] [] H G (e3_q0 Q) := by
  intro nl
  induction nl with
  | zero => intro l1 H G h; exact h.elim
  | succ nn ih =>
    intro l1 H G h
    have h : (((l1 : Int) < (H 14 3) → ((0 : Int) ≤ l1 ∧ (l1 : Int) < 12) ∧ (e3_ob G 8 (H 15 l1)) ∧ (wF_firstWithTooManyRows (fun x4 H2 G3 => (((x4 : Int) < 0 → (wR_layRows_2 Q nn (e3_w32 (l1 + 1)) H2 G3)) ∧ (¬ ((x4 : Int) < 0) → (e3_ob G3 9 x4) ∧ (wR_failAt (fun x8 H6 G7 => ((x8 : Int) = 0 ∨ x8 = 1) ∧ Q x8 H6 G7) 9 (H2 x4 1) H2 G3)))) (H 15 l1) H G)) ∧ (¬ ((l1 : Int) < (H 14 3)) → (∃ n, wR_layRows_43 Q n 0 H G))) := h
    refine e3_K [0, 0, 2] 7 [(2, 14), (0, l1), (3, 0)] [(0, (H 14 3)), (0, l1)] (H) (G) (wZ L xs) (M := tbM85) rfl rfl ⟨trivial, trivial⟩ ?_
    refine e3_br (M := tbM85) rfl rfl rfl Iff.rfl (fun hc => ?_) (fun hc => ?_)
    · replace h := h.1 hc
      obtain ⟨o1, h⟩ := h
      refine e3_K [0, 4, 0, 2] 16 [(2, 14), (0, l1), (3, 0)] [(2, (H 15 l1))] (H) (G) (wZ L xs) (M := tbM85) rfl rfl ⟨trivial, o1, trivial⟩ ?_
      obtain ⟨oz, h⟩ := h
      refine e3_call (o := 1) (k := 86) (M2 := tbM86) (f1 := 0) (w1 := 0) (as := [(2, (H 15 l1))]) (rest := []) (M := tbM85) rfl rfl rfl oz (Nat.le_of_ble_eq_true rfl) (Nat.le_of_ble_eq_true rfl) (Nat.le_of_ble_eq_true rfl) ?_
      refine e3_mono (sF_firstWithTooManyRows L xs _ _ _ _ h) (fun r H2 G3 h => ?_)
      obtain ⟨x4, rfl, h⟩ := h
      change e3_Ev _ _ _ _ 19 [(2, 14), (0, l1), (3, 0)] [(2, x4)] H2 G3 _
      refine e3_K [0, 0] 21 [(2, 14), (0, l1), (2, x4)] [(2, x4)] (H2) (G3) (wZ L xs) (M := tbM85) rfl rfl trivial ?_
      refine e3_br (M := tbM85) rfl rfl rfl Iff.rfl (fun hc => ?_) (fun hc => ?_)
      · replace h := h.1 hc
        refine e3_K [0, 0] 2 [(2, 14), (0, (e3_w32 (l1 + 1))), (2, x4)] [] (H2) (G3) (wZ L xs) (M := tbM85) rfl rfl trivial ?_
        refine e3_fgt [true, true, false] ?_
        exact ih _ _ _ h
      · replace h := h.2 hc
        obtain ⟨o5, h⟩ := h
        refine e3_K [0, 0, 0, 3] 31 [(2, 14), (0, l1), (2, x4)] [(0, (H2 x4 1)), (0, 9), (2, 14)] (H2) (G3) (wZ L xs) (M := tbM85) rfl rfl ⟨o5, trivial⟩ ?_
        refine e3_call (o := 0) (k := 65) (M2 := tbM65) (f1 := 0) (w1 := 0) (as := [(2, 14), (0, 9), (0, (H2 x4 1))]) (rest := []) (M := tbM85) rfl rfl rfl trivial (Nat.le_of_ble_eq_true rfl) (Nat.le_of_ble_eq_true rfl) (Nat.le_of_ble_eq_true rfl) ?_
        refine e3_mono (sR_failAt L xs _ _ _ _ _ h) (fun r H6 G7 h => ?_)
        obtain ⟨x8, rfl, h⟩ := h
        change e3_Ev _ _ _ _ 34 [(2, 14), (0, l1), (2, x4)] [(0, x8)] H6 G7 _
        exact e3_retb (M := tbM85) rfl rfl rfl h.1 ⟨_, rfl, h.2⟩
    · replace h := h.2 hc
      refine e3_K [0, 0] 43 [(2, 14), (0, 0), (3, 0)] [] (H) (G) (wZ L xs) (M := tbM85) rfl rfl trivial ?_
      obtain ⟨nl, h⟩ := h
      exact sR_layRows_43 L xs Q nl _ _ _ h
set_option maxRecDepth 100000 in
set_option maxHeartbeats 4000000 in
theorem sR_layRows (L : Nat) (xs : Nat → Int32) (Q : Int → e3_H → e3_G → Prop)  (H : e3_H) (G : e3_G) (h : wR_layRows Q  H G) : e3_Ev (wB L xs) 33 751 85 0 [(2, 14), (3, 0), (3, 0)] [] H G (e3_q0 Q) := by
  unfold wR_layRows at h
  refine e3_K [0, 0] 2 [(2, 14), (0, 0), (3, 0)] [] (H) (G) (wZ L xs) (M := tbM85) rfl rfl trivial ?_
  obtain ⟨nl, h⟩ := h
  exact sR_layRows_2 L xs Q nl _ _ _ h
/-- LetterPost$Reader.readText()Z -/
def wR_readText_127 (Q : Int → e3_H → e3_G → Prop) (s0 : Int) (H : e3_H) (G : e3_G) : Prop :=
  ((s0 : Int) = 0 ∨ s0 = 1) ∧ Q s0 H G
def wR_readText_126 (Q : Int → e3_H → e3_G → Prop)  (H : e3_H) (G : e3_G) : Prop :=
  (wR_readText_127 Q 0 H G)
def wR_readText_94 (Q : Int → e3_H → e3_G → Prop) (l1 : Int) (H : e3_H) (G : e3_G) : Prop :=
  (((l1 : Int) = 0 → (wR_readText_126 Q H G)) ∧ (¬ ((l1 : Int) = 0) → (wR_expect (fun x3 H1 G2 => (((x3 : Int) = 0 → (wR_readText_126 Q H1 G2)) ∧ (¬ ((x3 : Int) = 0) → (wR_checkCalls (fun x6 H4 G5 => (((x6 : Int) = 0 → (wR_readText_126 Q H4 G5)) ∧ (¬ ((x6 : Int) = 0) → (wR_layRows (fun x9 H7 G8 => (((x9 : Int) = 0 → (wR_readText_126 Q H7 G8)) ∧ (¬ ((x9 : Int) = 0) → (wR_readText_127 Q 1 H7 G8)))) H4 G5)))) H1 G2)))) 256 H G)))
def wR_readText_87 (Q : Int → e3_H → e3_G → Prop) (k45 : Int → Int → e3_H → e3_G → Prop) (l2 : Int) (s0 : Int) (H : e3_H) (G : e3_G) : Prop :=
  (k45 s0 (e3_w32 (l2 + 1)) H G)
def wR_readText_86 (Q : Int → e3_H → e3_G → Prop) (k45 : Int → Int → e3_H → e3_G → Prop) (l2 : Int) (H : e3_H) (G : e3_G) : Prop :=
  (wR_readText_87 Q k45 l2 0 H G)
def wR_readText_45 (Q : Int → e3_H → e3_G → Prop) : Nat → Int → Int → e3_H → e3_G → Prop
  | 0, _, _, _, _ => False
  | nn + 1, l1, l2, H, G => (((12 : Int) < l2 → (wR_readText_94 Q l1 H G)) ∧ (¬ ((12 : Int) < l2) → (((l1 : Int) = 0 → (wR_readText_94 Q l1 H G)) ∧ (¬ ((l1 : Int) = 0) → ((((H 3 7) : Int) = 272 → (wR_readHead (fun x3 H1 G2 => (((x3 : Int) = 0 → (wR_readText_86 Q (fun l1 l2 H G => wR_readText_45 Q nn l1 l2 H G) l2 H1 G2)) ∧ (¬ ((x3 : Int) = 0) → (wR_readRules (fun x6 H4 G5 => (((x6 : Int) = 0 → (wR_readText_86 Q (fun l1 l2 H G => wR_readText_45 Q nn l1 l2 H G) l2 H4 G5)) ∧ (¬ ((x6 : Int) = 0) → (wR_readText_87 Q (fun l1 l2 H G => wR_readText_45 Q nn l1 l2 H G) l2 1 H4 G5)))) H1 G2)))) H G)) ∧ (¬ (((H 3 7) : Int) = 272) → (wR_readText_94 Q l1 H G)))))))
def wR_readText_43 (Q : Int → e3_H → e3_G → Prop) (l1 : Int) (H : e3_H) (G : e3_G) : Prop :=
  (∃ n, wR_readText_45 Q n l1 0 H G)
def wR_readText_8 (Q : Int → e3_H → e3_G → Prop) : Nat → Int → Int → e3_H → e3_G → Prop
  | 0, _, _, _, _ => False
  | nn + 1, l1, l2, H, G => (((24 : Int) < l2 → (wR_readText_43 Q l1 H G)) ∧ (¬ ((24 : Int) < l2) → (((l1 : Int) = 0 → (wR_readText_43 Q l1 H G)) ∧ (¬ ((l1 : Int) = 0) → ((((H 3 7) : Int) = 270 → (wR_readKind (fun x3 H1 G2 => (wR_readText_8 Q nn x3 (e3_w32 (l2 + 1)) H1 G2)) 0 H G)) ∧ (¬ (((H 3 7) : Int) = 270) → (wR_readText_43 Q l1 H G)))))))
def wR_readText (Q : Int → e3_H → e3_G → Prop)  (H : e3_H) (G : e3_G) : Prop :=
  (wR_begin (fun H1 G2 => (∃ n, wR_readText_8 Q n 1 0 H1 G2)) H G)
set_option maxRecDepth 100000 in
set_option maxHeartbeats 4000000 in
theorem sR_readText_127 (L : Nat) (xs : Nat → Int32) (Q : Int → e3_H → e3_G → Prop) (s0 : Int) (H : e3_H) (G : e3_G) (h : wR_readText_127 Q s0 H G) : e3_Ev (wB L xs) 34 909 12 127 [(3, 0), (3, 0), (3, 0)] [(0, s0)] H G (e3_q0 Q) := by
  unfold wR_readText_127 at h
  exact e3_retb (M := tbM12) rfl rfl rfl h.1 ⟨_, rfl, h.2⟩
set_option maxRecDepth 100000 in
set_option maxHeartbeats 4000000 in
theorem sR_readText_126 (L : Nat) (xs : Nat → Int32) (Q : Int → e3_H → e3_G → Prop)  (H : e3_H) (G : e3_G) (h : wR_readText_126 Q  H G) : e3_Ev (wB L xs) 34 909 12 126 [(3, 0), (3, 0), (3, 0)] [] H G (e3_q0 Q) := by
  unfold wR_readText_126 at h
  refine e3_K [0] 127 [(3, 0), (3, 0), (3, 0)] [(0, 0)] (H) (G) (wZ L xs) (M := tbM12) rfl rfl trivial ?_
  exact sR_readText_127 L xs Q _ _ _ h
set_option maxRecDepth 100000 in
set_option maxHeartbeats 4000000 in
theorem sR_readText_94 (L : Nat) (xs : Nat → Int32) (Q : Int → e3_H → e3_G → Prop) (l1 : Int) (H : e3_H) (G : e3_G) (h : wR_readText_94 Q l1 H G) : e3_Ev (wB L xs) 34 909 12 94 [(2, 14), (0, l1), (3, 0)] [] H G (e3_q0 Q) := by
  unfold wR_readText_94 at h
  refine e3_K [0] 95 [(2, 14), (0, l1), (3, 0)] [(0, l1)] (H) (G) (wZ L xs) (M := tbM12) rfl rfl trivial ?_
  refine e3_br (M := tbM12) rfl rfl rfl Iff.rfl (fun hc => ?_) (fun hc => ?_)
  · replace h := h.1 hc
    refine e3_fgt [false, false, false] ?_
    exact sR_readText_126 L xs Q _ _ h
  · replace h := h.2 hc
    refine e3_K [0, 0] 102 [(2, 14), (0, l1), (3, 0)] [(0, 256), (2, 14)] (H) (G) (wZ L xs) (M := tbM12) rfl rfl trivial ?_
    refine e3_call (o := 0) (k := 38) (M2 := tbM38) (f1 := 1) (w1 := 21) (as := [(2, 14), (0, 256)]) (rest := []) (M := tbM12) rfl rfl rfl trivial (Nat.le_of_ble_eq_true rfl) (Nat.le_of_ble_eq_true rfl) (Nat.le_of_ble_eq_true rfl) ?_
    refine e3_mono (sR_expect L xs _ _ _ _ h) (fun r H1 G2 h => ?_)
    obtain ⟨x3, rfl, h⟩ := h
    change e3_Ev _ _ _ _ 105 [(2, 14), (0, l1), (3, 0)] [(0, x3)] H1 G2 _
    refine e3_br (M := tbM12) rfl rfl rfl Iff.rfl (fun hc => ?_) (fun hc => ?_)
    · replace h := h.1 hc
      refine e3_fgt [false, false, false] ?_
      exact sR_readText_126 L xs Q _ _ h
    · replace h := h.2 hc
      refine e3_K [0] 109 [(2, 14), (0, l1), (3, 0)] [(2, 14)] (H1) (G2) (wZ L xs) (M := tbM12) rfl rfl trivial ?_
      refine e3_call (o := 0) (k := 81) (M2 := tbM81) (f1 := 3) (w1 := 69) (as := [(2, 14)]) (rest := []) (M := tbM12) rfl rfl rfl trivial (Nat.le_of_ble_eq_true rfl) (Nat.le_of_ble_eq_true rfl) (Nat.le_of_ble_eq_true rfl) ?_
      refine e3_mono (sR_checkCalls L xs _ _ _ h) (fun r H4 G5 h => ?_)
      obtain ⟨x6, rfl, h⟩ := h
      change e3_Ev _ _ _ _ 112 [(2, 14), (0, l1), (3, 0)] [(0, x6)] H4 G5 _
      refine e3_br (M := tbM12) rfl rfl rfl Iff.rfl (fun hc => ?_) (fun hc => ?_)
      · replace h := h.1 hc
        refine e3_fgt [false, false, false] ?_
        exact sR_readText_126 L xs Q _ _ h
      · replace h := h.2 hc
        refine e3_K [0] 116 [(2, 14), (0, l1), (3, 0)] [(2, 14)] (H4) (G5) (wZ L xs) (M := tbM12) rfl rfl trivial ?_
        refine e3_call (o := 0) (k := 85) (M2 := tbM85) (f1 := 33) (w1 := 751) (as := [(2, 14)]) (rest := []) (M := tbM12) rfl rfl rfl trivial (Nat.le_of_ble_eq_true rfl) (Nat.le_of_ble_eq_true rfl) (Nat.le_of_ble_eq_true rfl) ?_
        refine e3_mono (sR_layRows L xs _ _ _ h) (fun r H7 G8 h => ?_)
        obtain ⟨x9, rfl, h⟩ := h
        change e3_Ev _ _ _ _ 119 [(2, 14), (0, l1), (3, 0)] [(0, x9)] H7 G8 _
        refine e3_br (M := tbM12) rfl rfl rfl Iff.rfl (fun hc => ?_) (fun hc => ?_)
        · replace h := h.1 hc
          refine e3_fgt [false, false, false] ?_
          exact sR_readText_126 L xs Q _ _ h
        · replace h := h.2 hc
          refine e3_K [0, 0] 127 [(2, 14), (0, l1), (3, 0)] [(0, 1)] (H7) (G8) (wZ L xs) (M := tbM12) rfl rfl trivial ?_
          refine e3_fgt [false, false, false] ?_
          exact sR_readText_127 L xs Q _ _ _ h
set_option maxRecDepth 100000 in
set_option maxHeartbeats 4000000 in
theorem sR_readText_87 (L : Nat) (xs : Nat → Int32) (Q : Int → e3_H → e3_G → Prop) (k45 : Int → Int → e3_H → e3_G → Prop) (hk45 : ∀ (l1 : Int) (l2 : Int) (H : e3_H) (G : e3_G), k45 l1 l2 H G → e3_Ev (wB L xs) 34 909 12 45 [(2, 14), (0, l1), (0, l2)] [] H G (e3_q0 Q)) (l2 : Int) (s0 : Int) (H : e3_H) (G : e3_G) (h : wR_readText_87 Q k45 l2 s0 H G) : e3_Ev (wB L xs) 34 909 12 87 [(2, 14), (3, 0), (0, l2)] [(0, s0)] H G (e3_q0 Q) := by
  unfold wR_readText_87 at h
  refine e3_K [0, 0, 0] 45 [(2, 14), (0, s0), (0, (e3_w32 (l2 + 1)))] [] (H) (G) (wZ L xs) (M := tbM12) rfl rfl trivial ?_
  exact hk45 _ _ _ _ h
set_option maxRecDepth 100000 in
set_option maxHeartbeats 4000000 in
theorem sR_readText_86 (L : Nat) (xs : Nat → Int32) (Q : Int → e3_H → e3_G → Prop) (k45 : Int → Int → e3_H → e3_G → Prop) (hk45 : ∀ (l1 : Int) (l2 : Int) (H : e3_H) (G : e3_G), k45 l1 l2 H G → e3_Ev (wB L xs) 34 909 12 45 [(2, 14), (0, l1), (0, l2)] [] H G (e3_q0 Q)) (l2 : Int) (H : e3_H) (G : e3_G) (h : wR_readText_86 Q k45 l2 H G) : e3_Ev (wB L xs) 34 909 12 86 [(2, 14), (3, 0), (0, l2)] [] H G (e3_q0 Q) := by
  unfold wR_readText_86 at h
  refine e3_K [0] 87 [(2, 14), (3, 0), (0, l2)] [(0, 0)] (H) (G) (wZ L xs) (M := tbM12) rfl rfl trivial ?_
  exact sR_readText_87 L xs Q k45 hk45 _ _ _ _ h
set_option maxRecDepth 100000 in
set_option maxHeartbeats 4000000 in
theorem sR_readText_45 (L : Nat) (xs : Nat → Int32) (Q : Int → e3_H → e3_G → Prop) : ∀ (nl : Nat) (l1 : Int) (l2 : Int) (H : e3_H) (G : e3_G), wR_readText_45 Q nl l1 l2 H G → e3_Ev (wB L xs) 34 909 12 45 [(2, 14), (0, l1), (0, l2)] [] H G (e3_q0 Q) := by
  intro nl
  induction nl with
  | zero => intro l1 l2 H G h; exact h.elim
  | succ nn ih =>
    intro l1 l2 H G h
    have h : (((12 : Int) < l2 → (wR_readText_94 Q l1 H G)) ∧ (¬ ((12 : Int) < l2) → (((l1 : Int) = 0 → (wR_readText_94 Q l1 H G)) ∧ (¬ ((l1 : Int) = 0) → ((((H 3 7) : Int) = 272 → (wR_readHead (fun x3 H1 G2 => (((x3 : Int) = 0 → (wR_readText_86 Q (fun l1 l2 H G => wR_readText_45 Q nn l1 l2 H G) l2 H1 G2)) ∧ (¬ ((x3 : Int) = 0) → (wR_readRules (fun x6 H4 G5 => (((x6 : Int) = 0 → (wR_readText_86 Q (fun l1 l2 H G => wR_readText_45 Q nn l1 l2 H G) l2 H4 G5)) ∧ (¬ ((x6 : Int) = 0) → (wR_readText_87 Q (fun l1 l2 H G => wR_readText_45 Q nn l1 l2 H G) l2 1 H4 G5)))) H1 G2)))) H G)) ∧ (¬ (((H 3 7) : Int) = 272) → (wR_readText_94 Q l1 H G))))))) := h
    refine e3_K [0, 0] 48 [(2, 14), (0, l1), (0, l2)] [(0, 12), (0, l2)] (H) (G) (wZ L xs) (M := tbM12) rfl rfl trivial ?_
    refine e3_br (M := tbM12) rfl rfl rfl Iff.rfl (fun hc => ?_) (fun hc => ?_)
    · replace h := h.1 hc
      refine e3_fgt [true, true, false] ?_
      exact sR_readText_94 L xs Q _ _ _ h
    · replace h := h.2 hc
      refine e3_K [0] 52 [(2, 14), (0, l1), (0, l2)] [(0, l1)] (H) (G) (wZ L xs) (M := tbM12) rfl rfl trivial ?_
      refine e3_br (M := tbM12) rfl rfl rfl Iff.rfl (fun hc => ?_) (fun hc => ?_)
      · replace h := h.1 hc
        refine e3_fgt [true, true, false] ?_
        exact sR_readText_94 L xs Q _ _ _ h
      · replace h := h.2 hc
        refine e3_K [0, 4, 2, 0] 65 [(2, 14), (0, l1), (0, l2)] [(0, 272), (0, (H 3 7))] (H) (G) (wZ L xs) (M := tbM12) rfl rfl ⟨trivial, trivial, trivial⟩ ?_
        refine e3_br (M := tbM12) rfl rfl rfl Iff.rfl (fun hc => ?_) (fun hc => ?_)
        · replace h := h.1 hc
          refine e3_K [0] 69 [(2, 14), (0, l1), (0, l2)] [(2, 14)] (H) (G) (wZ L xs) (M := tbM12) rfl rfl trivial ?_
          refine e3_call (o := 0) (k := 39) (M2 := tbM39) (f1 := 5) (w1 := 168) (as := [(2, 14)]) (rest := []) (M := tbM12) rfl rfl rfl trivial (Nat.le_of_ble_eq_true rfl) (Nat.le_of_ble_eq_true rfl) (Nat.le_of_ble_eq_true rfl) ?_
          refine e3_mono (sR_readHead L xs _ _ _ h) (fun r H1 G2 h => ?_)
          obtain ⟨x3, rfl, h⟩ := h
          change e3_Ev _ _ _ _ 72 [(2, 14), (0, l1), (0, l2)] [(0, x3)] H1 G2 _
          refine e3_br (M := tbM12) rfl rfl rfl Iff.rfl (fun hc => ?_) (fun hc => ?_)
          · replace h := h.1 hc
            refine e3_fgt [true, false, true] ?_
            exact sR_readText_86 L xs Q (fun l1 l2 H G => wR_readText_45 Q nn l1 l2 H G) ih _ _ _ h
          · replace h := h.2 hc
            refine e3_K [0] 76 [(2, 14), (0, l1), (0, l2)] [(2, 14)] (H1) (G2) (wZ L xs) (M := tbM12) rfl rfl trivial ?_
            refine e3_call (o := 0) (k := 45) (M2 := tbM45) (f1 := 33) (w1 := 888) (as := [(2, 14)]) (rest := []) (M := tbM12) rfl rfl rfl trivial (Nat.le_of_ble_eq_true rfl) (Nat.le_of_ble_eq_true rfl) (Nat.le_of_ble_eq_true rfl) ?_
            refine e3_mono (sR_readRules L xs _ _ _ h) (fun r H4 G5 h => ?_)
            obtain ⟨x6, rfl, h⟩ := h
            change e3_Ev _ _ _ _ 79 [(2, 14), (0, l1), (0, l2)] [(0, x6)] H4 G5 _
            refine e3_br (M := tbM12) rfl rfl rfl Iff.rfl (fun hc => ?_) (fun hc => ?_)
            · replace h := h.1 hc
              refine e3_fgt [true, false, true] ?_
              exact sR_readText_86 L xs Q (fun l1 l2 H G => wR_readText_45 Q nn l1 l2 H G) ih _ _ _ h
            · replace h := h.2 hc
              refine e3_K [0, 0] 87 [(2, 14), (0, l1), (0, l2)] [(0, 1)] (H4) (G5) (wZ L xs) (M := tbM12) rfl rfl trivial ?_
              refine e3_fgt [true, false, true] ?_
              exact sR_readText_87 L xs Q (fun l1 l2 H G => wR_readText_45 Q nn l1 l2 H G) ih _ _ _ _ h
        · replace h := h.2 hc
          refine e3_fgt [true, true, false] ?_
          exact sR_readText_94 L xs Q _ _ _ h
set_option maxRecDepth 100000 in
set_option maxHeartbeats 4000000 in
theorem sR_readText_43 (L : Nat) (xs : Nat → Int32) (Q : Int → e3_H → e3_G → Prop) (l1 : Int) (H : e3_H) (G : e3_G) (h : wR_readText_43 Q l1 H G) : e3_Ev (wB L xs) 34 909 12 43 [(2, 14), (0, l1), (3, 0)] [] H G (e3_q0 Q) := by
  unfold wR_readText_43 at h
  refine e3_K [0, 0] 45 [(2, 14), (0, l1), (0, 0)] [] (H) (G) (wZ L xs) (M := tbM12) rfl rfl trivial ?_
  obtain ⟨nl, h⟩ := h
  exact sR_readText_45 L xs Q nl _ _ _ _ h
set_option maxRecDepth 100000 in
set_option maxHeartbeats 4000000 in
theorem sR_readText_8 (L : Nat) (xs : Nat → Int32) (Q : Int → e3_H → e3_G → Prop) : ∀ (nl : Nat) (l1 : Int) (l2 : Int) (H : e3_H) (G : e3_G), wR_readText_8 Q nl l1 l2 H G → e3_Ev (wB L xs) 34 909 12 8 [(2, 14), (0, l1), (0, l2)] [] H G (e3_q0 Q) := by
  intro nl
  induction nl with
  | zero => intro l1 l2 H G h; exact h.elim
  | succ nn ih =>
    intro l1 l2 H G h
    have h : (((24 : Int) < l2 → (wR_readText_43 Q l1 H G)) ∧ (¬ ((24 : Int) < l2) → (((l1 : Int) = 0 → (wR_readText_43 Q l1 H G)) ∧ (¬ ((l1 : Int) = 0) → ((((H 3 7) : Int) = 270 → (wR_readKind (fun x3 H1 G2 => (wR_readText_8 Q nn x3 (e3_w32 (l2 + 1)) H1 G2)) 0 H G)) ∧ (¬ (((H 3 7) : Int) = 270) → (wR_readText_43 Q l1 H G))))))) := h
    refine e3_K [0, 0] 11 [(2, 14), (0, l1), (0, l2)] [(0, 24), (0, l2)] (H) (G) (wZ L xs) (M := tbM12) rfl rfl trivial ?_
    refine e3_br (M := tbM12) rfl rfl rfl Iff.rfl (fun hc => ?_) (fun hc => ?_)
    · replace h := h.1 hc
      refine e3_fgt [true, true, false] ?_
      exact sR_readText_43 L xs Q _ _ _ h
    · replace h := h.2 hc
      refine e3_K [0] 15 [(2, 14), (0, l1), (0, l2)] [(0, l1)] (H) (G) (wZ L xs) (M := tbM12) rfl rfl trivial ?_
      refine e3_br (M := tbM12) rfl rfl rfl Iff.rfl (fun hc => ?_) (fun hc => ?_)
      · replace h := h.1 hc
        refine e3_fgt [true, true, false] ?_
        exact sR_readText_43 L xs Q _ _ _ h
      · replace h := h.2 hc
        refine e3_K [0, 4, 2, 0] 28 [(2, 14), (0, l1), (0, l2)] [(0, 270), (0, (H 3 7))] (H) (G) (wZ L xs) (M := tbM12) rfl rfl ⟨trivial, trivial, trivial⟩ ?_
        refine e3_br (M := tbM12) rfl rfl rfl Iff.rfl (fun hc => ?_) (fun hc => ?_)
        · replace h := h.1 hc
          refine e3_K [0, 0] 33 [(2, 14), (0, l1), (0, l2)] [(0, 0), (2, 14)] (H) (G) (wZ L xs) (M := tbM12) rfl rfl trivial ?_
          refine e3_call (o := 0) (k := 26) (M2 := tbM26) (f1 := 3) (w1 := 67) (as := [(2, 14), (0, 0)]) (rest := []) (M := tbM12) rfl rfl rfl trivial (Nat.le_of_ble_eq_true rfl) (Nat.le_of_ble_eq_true rfl) (Nat.le_of_ble_eq_true rfl) ?_
          refine e3_mono (sR_readKind L xs _ _ _ _ h) (fun r H1 G2 h => ?_)
          obtain ⟨x3, rfl, h⟩ := h
          change e3_Ev _ _ _ _ 36 [(2, 14), (0, l1), (0, l2)] [(0, x3)] H1 G2 _
          refine e3_K [0, 0, 0] 8 [(2, 14), (0, x3), (0, (e3_w32 (l2 + 1)))] [] (H1) (G2) (wZ L xs) (M := tbM12) rfl rfl trivial ?_
          exact ih _ _ _ _ h
        · replace h := h.2 hc
          refine e3_fgt [true, true, false] ?_
          exact sR_readText_43 L xs Q _ _ _ h
set_option maxRecDepth 100000 in
set_option maxHeartbeats 4000000 in
theorem sR_readText (L : Nat) (xs : Nat → Int32) (Q : Int → e3_H → e3_G → Prop)  (H : e3_H) (G : e3_G) (h : wR_readText Q  H G) : e3_Ev (wB L xs) 34 909 12 0 [(2, 14), (3, 0), (3, 0)] [] H G (e3_q0 Q) := by
  unfold wR_readText at h
  refine e3_K [0] 1 [(2, 14), (3, 0), (3, 0)] [(2, 14)] (H) (G) (wZ L xs) (M := tbM12) rfl rfl trivial ?_
  refine e3_call (o := 0) (k := 13) (M2 := tbM13) (f1 := 10) (w1 := 447) (as := [(2, 14)]) (rest := []) (M := tbM12) rfl rfl rfl trivial (Nat.le_of_ble_eq_true rfl) (Nat.le_of_ble_eq_true rfl) (Nat.le_of_ble_eq_true rfl) ?_
  refine e3_mono (sR_begin L xs _ _ _ h) (fun r H1 G2 h => ?_)
  obtain ⟨rfl, h⟩ := h
  change e3_Ev _ _ _ _ 4 [(2, 14), (3, 0), (3, 0)] [] H1 G2 _
  refine e3_K [0, 0, 0, 0] 8 [(2, 14), (0, 1), (0, 0)] [] (H1) (G2) (wZ L xs) (M := tbM12) rfl rfl trivial ?_
  obtain ⟨nl, h⟩ := h
  exact sR_readText_8 L xs Q nl _ _ _ _ h
