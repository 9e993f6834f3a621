/-- LetterPost$Function.unguardedRows()J -/
def wF_unguardedRows_33 (Q : Int → e3_H → e3_G → Prop) (k4 : Int → Int → Int → e3_H → e3_G → Prop) (l0 : Int) (l1 : Int) (l3 : Int) (H : e3_H) (G : e3_G) : Prop :=
  (k4 l0 l1 (e3_w32 (l3 + 1)) H G)
def wF_unguardedRows_4 (Q : Int → e3_H → e3_G → Prop) : Nat → Int → Int → Int → e3_H → e3_G → Prop
  | 0, _, _, _, _, _ => False
  | nn + 1, l0, l1, l3, H, G => (e3_ob G 8 l0) ∧ (((l3 : Int) < (H l0 5) → (e3_ob G 8 l0) ∧ (e3_oa G 6 (H l0 6) l3) ∧ (e3_ob G 11 (H (H l0 6) l3)) ∧ (e3_ob G 9 (H (H (H l0 6) l3) 0)) ∧ (wU_isGuarded (fun x7 H5 G6 => (((x7 : Int) = 0 → (wF_unguardedRows_33 Q (fun l0 l1 l3 H G => wF_unguardedRows_4 Q nn l0 l1 l3 H G) l0 (e3_lor l1 (e3_lshl 1 l3)) l3 H5 G6)) ∧ (¬ ((x7 : Int) = 0) → (wF_unguardedRows_33 Q (fun l0 l1 l3 H G => wF_unguardedRows_4 Q nn l0 l1 l3 H G) l0 l1 l3 H5 G6)))) (H (H (H l0 6) l3) 0) H G)) ∧ (¬ ((l3 : Int) < (H l0 5)) → Q l1 H G))
def wF_unguardedRows (Q : Int → e3_H → e3_G → Prop) (l0 : Int) (H : e3_H) (G : e3_G) : Prop :=
  (∃ n, wF_unguardedRows_4 Q n l0 0 0 H G)
set_option maxRecDepth 100000 in
set_option maxHeartbeats 4000000 in
theorem sF_unguardedRows_33 (L : Nat) (xs : Nat → Int32) (Q : Int → e3_H → e3_G → Prop) (k4 : Int → Int → Int → e3_H → e3_G → Prop) (hk4 : ∀ (l0 : Int) (l1 : Int) (l3 : Int) (H : e3_H) (G : e3_G), k4 l0 l1 l3 H G → e3_Ev (wB L xs) 1 20 143 4 [(2, l0), (1, l1), (3, 0), (0, l3)] [] H G (e3_q1 Q)) (l0 : Int) (l1 : Int) (l3 : Int) (H : e3_H) (G : e3_G) (h : wF_unguardedRows_33 Q k4 l0 l1 l3 H G) : e3_Ev (wB L xs) 1 20 143 33 [(2, l0), (1, l1), (3, 0), (0, l3)] [] H G (e3_q1 Q) := by
  unfold wF_unguardedRows_33 at h
  refine e3_K [0, 0] 4 [(2, l0), (1, l1), (3, 0), (0, (e3_w32 (l3 + 1)))] [] (H) (G) (wZ L xs) (M := tbM143) rfl rfl trivial ?_
  exact hk4 _ _ _ _ _ h
set_option maxRecDepth 100000 in
set_option maxHeartbeats 4000000 in
theorem sF_unguardedRows_4 (L : Nat) (xs : Nat → Int32) (Q : Int → e3_H → e3_G → Prop) : ∀ (nl : Nat) (l0 : Int) (l1 : Int) (l3 : Int) (H : e3_H) (G : e3_G), wF_unguardedRows_4 Q nl l0 l1 l3 H G → e3_Ev (wB L xs) 1 20 143 4 [(2, l0), (1, l1), (3, 0), (0, l3)] [] H G (e3_q1 Q) := by
  intro nl
  induction nl with
  | zero => intro l0 l1 l3 H G h; exact h.elim
  | succ nn ih =>
    intro l0 l1 l3 H G h
    have h : (e3_ob G 8 l0) ∧ (((l3 : Int) < (H l0 5) → (e3_ob G 8 l0) ∧ (e3_oa G 6 (H l0 6) l3) ∧ (e3_ob G 11 (H (H l0 6) l3)) ∧ (e3_ob G 9 (H (H (H l0 6) l3) 0)) ∧ (wU_isGuarded (fun x7 H5 G6 => (((x7 : Int) = 0 → (wF_unguardedRows_33 Q (fun l0 l1 l3 H G => wF_unguardedRows_4 Q nn l0 l1 l3 H G) l0 (e3_lor l1 (e3_lshl 1 l3)) l3 H5 G6)) ∧ (¬ ((x7 : Int) = 0) → (wF_unguardedRows_33 Q (fun l0 l1 l3 H G => wF_unguardedRows_4 Q nn l0 l1 l3 H G) l0 l1 l3 H5 G6)))) (H (H (H l0 6) l3) 0) H G)) ∧ (¬ ((l3 : Int) < (H l0 5)) → Q l1 H G)) := h
    obtain ⟨o1, h⟩ := h
    refine e3_K [0, 0, 3] 9 [(2, l0), (1, l1), (3, 0), (0, l3)] [(0, (H l0 5)), (0, l3)] (H) (G) (wZ L xs) (M := tbM143) rfl rfl ⟨o1, trivial⟩ ?_
    refine e3_br (M := tbM143) rfl rfl rfl Iff.rfl (fun hc => ?_) (fun hc => ?_)
    · replace h := h.1 hc
      obtain ⟨o2, o3, o4, h⟩ := h
      refine e3_K [0, 3, 0, 9, 3] 21 [(2, l0), (1, l1), (3, 0), (0, l3)] [(2, (H (H (H l0 6) l3) 0))] (H) (G) (wZ L xs) (M := tbM143) rfl rfl ⟨o2, o3, o4, trivial⟩ ?_
      obtain ⟨oz, h⟩ := h
      refine e3_call (o := 1) (k := 119) (M2 := tbM119) (f1 := 0) (w1 := 0) (as := [(2, (H (H (H l0 6) l3) 0))]) (rest := []) (M := tbM143) rfl rfl rfl oz (Nat.le_of_ble_eq_true rfl) (Nat.le_of_ble_eq_true rfl) (Nat.le_of_ble_eq_true rfl) ?_
      refine e3_mono (sU_isGuarded L xs _ _ _ _ h) (fun r H5 G6 h => ?_)
      obtain ⟨x7, rfl, h⟩ := h
      change e3_Ev _ _ _ _ 24 [(2, l0), (1, l1), (3, 0), (0, l3)] [(0, x7)] H5 G6 _
      refine e3_br (M := tbM143) rfl rfl rfl Iff.rfl (fun hc => ?_) (fun hc => ?_)
      · replace h := h.1 hc
        refine e3_K [0, 0, 0, 0, 0, 0] 33 [(2, l0), (1, (e3_lor l1 (e3_lshl 1 l3))), (3, 0), (0, l3)] [] (H5) (G6) (wZ L xs) (M := tbM143) rfl rfl trivial ?_
        exact sF_unguardedRows_33 L xs Q (fun l0 l1 l3 H G => wF_unguardedRows_4 Q nn l0 l1 l3 H G) ih _ _ _ _ _ h
      · replace h := h.2 hc
        exact sF_unguardedRows_33 L xs Q (fun l0 l1 l3 H G => wF_unguardedRows_4 Q nn l0 l1 l3 H G) ih _ _ _ _ _ h
    · replace h := h.2 hc
      refine e3_K [0] 40 [(2, l0), (1, l1), (3, 0), (0, l3)] [(1, l1)] (H) (G) (wZ L xs) (M := tbM143) rfl rfl trivial ?_
      exact e3_retl (M := tbM143) rfl rfl rfl ⟨_, rfl, h⟩
set_option maxRecDepth 100000 in
set_option maxHeartbeats 4000000 in
theorem sF_unguardedRows (L : Nat) (xs : Nat → Int32) (Q : Int → e3_H → e3_G → Prop) (l0 : Int) (H : e3_H) (G : e3_G) (h : wF_unguardedRows Q l0 H G) : e3_Ev (wB L xs) 1 20 143 0 [(2, l0), (3, 0), (3, 0), (3, 0)] [] H G (e3_q1 Q) := by
  unfold wF_unguardedRows at h
  refine e3_K [0, 0, 0, 0] 4 [(2, l0), (1, 0), (3, 0), (0, 0)] [] (H) (G) (wZ L xs) (M := tbM143) rfl rfl trivial ?_
  obtain ⟨nl, h⟩ := h
  exact sF_unguardedRows_4 L xs Q nl _ _ _ _ _ h
/-- LetterPost$Tree.hasNone()Z -/
def wE_hasNone_2 (Q : Int → e3_H → e3_G → Prop) : Nat → Int → Int → e3_H → e3_G → Prop
  | 0, _, _, _, _ => False
  | nn + 1, l0, l1, H, G => (e3_ob G 5 l0) ∧ (((l1 : Int) < (H l0 0) → (e3_ob G 5 l0) ∧ (e3_oa G 0 (H l0 4) l1) ∧ ((((H (H l0 4) l1) : Int) = 0 → Q 1 H G) ∧ (¬ (((H (H l0 4) l1) : Int) = 0) → (wE_hasNone_2 Q nn l0 (e3_w32 (l1 + 1)) H G)))) ∧ (¬ ((l1 : Int) < (H l0 0)) → Q 0 H G))
def wE_hasNone (Q : Int → e3_H → e3_G → Prop) (l0 : Int) (H : e3_H) (G : e3_G) : Prop :=
  (∃ n, wE_hasNone_2 Q n l0 0 H G)
set_option maxRecDepth 100000 in
set_option maxHeartbeats 4000000 in
theorem sE_hasNone_2 (L : Nat) (xs : Nat → Int32) (Q : Int → e3_H → e3_G → Prop) : ∀ (nl : Nat) (l0 : Int) (l1 : Int) (H : e3_H) (G : e3_G), wE_hasNone_2 Q nl l0 l1 H G → e3_Ev (wB L xs) 0 0 144 2 [(2, l0), (0, l1)] [] H G (e3_q0 Q) := by
  intro nl
  induction nl with
  | zero => intro l0 l1 H G h; exact h.elim
  | succ nn ih =>
    intro l0 l1 H G h
    have h : (e3_ob G 5 l0) ∧ (((l1 : Int) < (H l0 0) → (e3_ob G 5 l0) ∧ (e3_oa G 0 (H l0 4) l1) ∧ ((((H (H l0 4) l1) : Int) = 0 → Q 1 H G) ∧ (¬ (((H (H l0 4) l1) : Int) = 0) → (wE_hasNone_2 Q nn l0 (e3_w32 (l1 + 1)) H G)))) ∧ (¬ ((l1 : Int) < (H l0 0)) → Q 0 H G)) := h
    obtain ⟨o1, h⟩ := h
    refine e3_K [0, 0, 3] 7 [(2, l0), (0, l1)] [(0, (H l0 0)), (0, l1)] (H) (G) (wZ L xs) (M := tbM144) rfl rfl ⟨o1, trivial⟩ ?_
    refine e3_br (M := tbM144) rfl rfl rfl Iff.rfl (fun hc => ?_) (fun hc => ?_)
    · replace h := h.1 hc
      obtain ⟨o2, o3, h⟩ := h
      refine e3_K [0, 3, 0, 3] 16 [(2, l0), (0, l1)] [(0, (H (H l0 4) l1))] (H) (G) (wZ L xs) (M := tbM144) rfl rfl ⟨o2, o3, trivial⟩ ?_
      refine e3_br (M := tbM144) rfl rfl rfl Iff.rfl (fun hc => ?_) (fun hc => ?_)
      · replace h := h.1 hc
        refine e3_K [0] 20 [(2, l0), (0, l1)] [(0, 1)] (H) (G) (wZ L xs) (M := tbM144) rfl rfl trivial ?_
        exact e3_retb (M := tbM144) rfl rfl rfl (Or.inr rfl) ⟨_, rfl, h⟩
      · replace h := h.2 hc
        refine e3_K [0, 0] 2 [(2, l0), (0, (e3_w32 (l1 + 1)))] [] (H) (G) (wZ L xs) (M := tbM144) rfl rfl trivial ?_
        exact ih _ _ _ _ h
    · replace h := h.2 hc
      refine e3_K [0] 28 [(2, l0), (0, l1)] [(0, 0)] (H) (G) (wZ L xs) (M := tbM144) rfl rfl trivial ?_
      exact e3_retb (M := tbM144) rfl rfl rfl (Or.inl rfl) ⟨_, rfl, h⟩
set_option maxRecDepth 100000 in
set_option maxHeartbeats 4000000 in
theorem sE_hasNone (L : Nat) (xs : Nat → Int32) (Q : Int → e3_H → e3_G → Prop) (l0 : Int) (H : e3_H) (G : e3_G) (h : wE_hasNone Q l0 H G) : e3_Ev (wB L xs) 0 0 144 0 [(2, l0), (3, 0)] [] H G (e3_q0 Q) := by
  unfold wE_hasNone at h
  refine e3_K [0, 0] 2 [(2, l0), (0, 0)] [] (H) (G) (wZ L xs) (M := tbM144) rfl rfl trivial ?_
  obtain ⟨nl, h⟩ := h
  exact sE_hasNone_2 L xs Q nl _ _ _ _ h
/-- LetterPost.missing(I)I -/
def wP_missing_52 (Q : Int → e3_H → e3_G → Prop) (s0 : Int) (H : e3_H) (G : e3_G) : Prop :=
  Q s0 H G
def wP_missing (Q : Int → e3_H → e3_G → Prop) (l1 : Int) (H : e3_H) (G : e3_G) : Prop :=
  (wR_functionAt (fun x3 H1 G2 => (((x3 : Int) < 0 → Q (-1) H1 G2) ∧ (¬ ((x3 : Int) < 0) → (e3_ob G2 8 x3) ∧ (wF_unguardedRows (fun x6 H4 G5 => (wD_draw (fun x9 H7 G8 => (((x9 : Int) = 0 → Q (-3) H7 G8) ∧ (¬ ((x9 : Int) = 0) → (e3_ob G8 5 (H7 16 1)) ∧ (wE_hasNone (fun x12 H10 G11 => (((x12 : Int) = 0 → (wP_missing_52 Q 0 H10 G11)) ∧ (¬ ((x12 : Int) = 0) → (wP_missing_52 Q 1 H10 G11)))) (H7 16 1) H7 G8)))) x3 0 x6 H4 G5)) x3 H1 G2)))) l1 H G)
set_option maxRecDepth 100000 in
set_option maxHeartbeats 4000000 in
theorem sP_missing_52 (L : Nat) (xs : Nat → Int32) (Q : Int → e3_H → e3_G → Prop) (s0 : Int) (H : e3_H) (G : e3_G) (h : wP_missing_52 Q s0 H G) : e3_Ev (wB L xs) 377 10167 142 52 [(3, 0), (3, 0), (3, 0)] [(0, s0)] H G (e3_q0 Q) := by
  unfold wP_missing_52 at h
  exact e3_reti (M := tbM142) rfl rfl rfl ⟨_, rfl, h⟩
set_option maxRecDepth 100000 in
set_option maxHeartbeats 4000000 in
theorem sP_missing (L : Nat) (xs : Nat → Int32) (Q : Int → e3_H → e3_G → Prop) (l1 : Int) (H : e3_H) (G : e3_G) (h : wP_missing Q l1 H G) : e3_Ev (wB L xs) 377 10167 142 0 [(2, 2), (0, l1), (3, 0)] [] H G (e3_q0 Q) := by
  unfold wP_missing at h
  refine e3_K [0, 4, 0] 5 [(2, 2), (0, l1), (3, 0)] [(0, l1), (2, 14)] (H) (G) (wZ L xs) (M := tbM142) rfl rfl ⟨trivial, trivial⟩ ?_
  refine e3_call (o := 0) (k := 83) (M2 := tbM83) (f1 := 0) (w1 := 0) (as := [(2, 14), (0, l1)]) (rest := []) (M := tbM142) rfl rfl rfl trivial (Nat.le_of_ble_eq_true rfl) (Nat.le_of_ble_eq_true rfl) (Nat.le_of_ble_eq_true rfl) ?_
  refine e3_mono (sR_functionAt L xs _ _ _ _ h) (fun r H1 G2 h => ?_)
  obtain ⟨x3, rfl, h⟩ := h
  change e3_Ev _ _ _ _ 8 [(2, 2), (0, l1), (3, 0)] [(2, x3)] H1 G2 _
  refine e3_K [0, 0] 10 [(2, 2), (0, l1), (2, x3)] [(2, x3)] (H1) (G2) (wZ L xs) (M := tbM142) rfl rfl trivial ?_
  refine e3_br (M := tbM142) rfl rfl rfl Iff.rfl (fun hc => ?_) (fun hc => ?_)
  · replace h := h.1 hc
    refine e3_K [0] 14 [(2, 2), (0, l1), (2, x3)] [(0, (-1))] (H1) (G2) (wZ L xs) (M := tbM142) rfl rfl trivial ?_
    exact e3_reti (M := tbM142) rfl rfl rfl ⟨_, rfl, h⟩
  · replace h := h.2 hc
    refine e3_K [0, 4, 0, 0, 0] 22 [(2, 2), (0, l1), (2, x3)] [(2, x3), (0, 0), (2, x3), (2, 16)] (H1) (G2) (wZ L xs) (M := tbM142) rfl rfl ⟨trivial, trivial⟩ ?_
    obtain ⟨oz, h⟩ := h
    refine e3_call (o := 1) (k := 143) (M2 := tbM143) (f1 := 1) (w1 := 20) (as := [(2, x3)]) (rest := [(0, 0), (2, x3), (2, 16)]) (M := tbM142) rfl rfl rfl oz (Nat.le_of_ble_eq_true rfl) (Nat.le_of_ble_eq_true rfl) (Nat.le_of_ble_eq_true rfl) ?_
    refine e3_mono (sF_unguardedRows L xs _ _ _ _ h) (fun r H4 G5 h => ?_)
    obtain ⟨x6, rfl, h⟩ := h
    change e3_Ev _ _ _ _ 25 [(2, 2), (0, l1), (2, x3)] [(1, x6), (0, 0), (2, x3), (2, 16)] H4 G5 _
    refine e3_call (o := 0) (k := 96) (M2 := tbM96) (f1 := 376) (w1 := 10143) (as := [(2, 16), (2, x3), (0, 0), (1, x6)]) (rest := []) (M := tbM142) rfl rfl rfl trivial (Nat.le_of_ble_eq_true rfl) (Nat.le_of_ble_eq_true rfl) (Nat.le_of_ble_eq_true rfl) ?_
    refine e3_mono (sD_draw L xs _ _ _ _ _ _ h) (fun r H7 G8 h => ?_)
    obtain ⟨x9, rfl, h⟩ := h
    change e3_Ev _ _ _ _ 28 [(2, 2), (0, l1), (2, x3)] [(0, x9)] H7 G8 _
    refine e3_br (M := tbM142) rfl rfl rfl Iff.rfl (fun hc => ?_) (fun hc => ?_)
    · replace h := h.1 hc
      refine e3_K [0] 33 [(2, 2), (0, l1), (2, x3)] [(0, (-3))] (H7) (G8) (wZ L xs) (M := tbM142) rfl rfl trivial ?_
      exact e3_reti (M := tbM142) rfl rfl rfl ⟨_, rfl, h⟩
    · replace h := h.2 hc
      refine e3_K [0, 4, 2] 41 [(2, 2), (0, l1), (2, x3)] [(2, (H7 16 1))] (H7) (G8) (wZ L xs) (M := tbM142) rfl rfl ⟨trivial, trivial, trivial⟩ ?_
      obtain ⟨oz, h⟩ := h
      refine e3_call (o := 1) (k := 144) (M2 := tbM144) (f1 := 0) (w1 := 0) (as := [(2, (H7 16 1))]) (rest := []) (M := tbM142) rfl rfl rfl oz (Nat.le_of_ble_eq_true rfl) (Nat.le_of_ble_eq_true rfl) (Nat.le_of_ble_eq_true rfl) ?_
      refine e3_mono (sE_hasNone L xs _ _ _ _ h) (fun r H10 G11 h => ?_)
      obtain ⟨x12, rfl, h⟩ := h
      change e3_Ev _ _ _ _ 44 [(2, 2), (0, l1), (2, x3)] [(0, x12)] H10 G11 _
      refine e3_br (M := tbM142) rfl rfl rfl Iff.rfl (fun hc => ?_) (fun hc => ?_)
      · replace h := h.1 hc
        refine e3_K [0] 52 [(2, 2), (0, l1), (2, x3)] [(0, 0)] (H10) (G11) (wZ L xs) (M := tbM142) rfl rfl trivial ?_
        refine e3_fgt [false, false, false] ?_
        exact sP_missing_52 L xs Q _ _ _ h
      · replace h := h.2 hc
        refine e3_K [0, 0] 52 [(2, 2), (0, l1), (2, x3)] [(0, 1)] (H10) (G11) (wZ L xs) (M := tbM142) rfl rfl trivial ?_
        refine e3_fgt [false, false, false] ?_
        exact sP_missing_52 L xs Q _ _ _ h
/-- LetterPost$Function.comesTo(LLetterPost$Tree;I)Z -/
def wF_comesTo_41 (Q : Int → e3_H → e3_G → Prop) (k2 : Int → Int → Int → Int → e3_H → e3_G → Prop) (l0 : Int) (l1 : Int) (l2 : Int) (l3 : Int) (H : e3_H) (G : e3_G) : Prop :=
  (k2 l0 l1 l2 (e3_w32 (l3 + 1)) H G)
def wF_comesTo_2 (Q : Int → e3_H → e3_G → Prop) : Nat → Int → Int → Int → Int → e3_H → e3_G → Prop
  | 0, _, _, _, _, _, _ => False
  | nn + 1, l0, l1, l2, l3, H, G => (e3_ob G 5 l1) ∧ (((l3 : Int) < (H l1 0) → (e3_ob G 5 l1) ∧ (e3_oa G 0 (H l1 5) l3) ∧ (e3_ob G 8 l0) ∧ (wF_rowAt (fun x6 H4 G5 => (((x6 : Int) < 0 → (wF_comesTo_41 Q (fun l0 l1 l2 l3 H G => wF_comesTo_2 Q nn l0 l1 l2 l3 H G) l0 l1 l2 l3 H4 G5)) ∧ (¬ ((x6 : Int) < 0) → (e3_ob G5 11 x6) ∧ (e3_ob G5 9 (H4 x6 0)) ∧ ((((H4 (H4 x6 0) 0) : Int) = l2 → Q 1 H4 G5) ∧ (¬ (((H4 (H4 x6 0) 0) : Int) = l2) → (wF_comesTo_41 Q (fun l0 l1 l2 l3 H G => wF_comesTo_2 Q nn l0 l1 l2 l3 H G) l0 l1 l2 l3 H4 G5)))))) l0 (H (H l1 5) l3) H G)) ∧ (¬ ((l3 : Int) < (H l1 0)) → Q 0 H G))
def wF_comesTo (Q : Int → e3_H → e3_G → Prop) (l0 : Int) (l1 : Int) (l2 : Int) (H : e3_H) (G : e3_G) : Prop :=
  (∃ n, wF_comesTo_2 Q n l0 l1 l2 0 H G)
set_option maxRecDepth 100000 in
set_option maxHeartbeats 4000000 in
theorem sF_comesTo_41 (L : Nat) (xs : Nat → Int32) (Q : Int → e3_H → e3_G → Prop) (k2 : Int → Int → Int → Int → e3_H → e3_G → Prop) (hk2 : ∀ (l0 : Int) (l1 : Int) (l2 : Int) (l3 : Int) (H : e3_H) (G : e3_G), k2 l0 l1 l2 l3 H G → e3_Ev (wB L xs) 1 21 146 2 [(2, l0), (2, l1), (0, l2), (0, l3), (3, 0)] [] H G (e3_q0 Q)) (l0 : Int) (l1 : Int) (l2 : Int) (l3 : Int) (H : e3_H) (G : e3_G) (h : wF_comesTo_41 Q k2 l0 l1 l2 l3 H G) : e3_Ev (wB L xs) 1 21 146 41 [(2, l0), (2, l1), (0, l2), (0, l3), (3, 0)] [] H G (e3_q0 Q) := by
  unfold wF_comesTo_41 at h
  refine e3_K [0, 0] 2 [(2, l0), (2, l1), (0, l2), (0, (e3_w32 (l3 + 1))), (3, 0)] [] (H) (G) (wZ L xs) (M := tbM146) rfl rfl trivial ?_
  exact hk2 _ _ _ _ _ _ h
set_option maxRecDepth 100000 in
set_option maxHeartbeats 4000000 in
theorem sF_comesTo_2 (L : Nat) (xs : Nat → Int32) (Q : Int → e3_H → e3_G → Prop) : ∀ (nl : Nat) (l0 : Int) (l1 : Int) (l2 : Int) (l3 : Int) (H : e3_H) (G : e3_G), wF_comesTo_2 Q nl l0 l1 l2 l3 H G → e3_Ev (wB L xs) 1 21 146 2 [(2, l0), (2, l1), (0, l2), (0, l3), (3, 0)] [] H G (e3_q0 Q) := by
  intro nl
  induction nl with
  | zero => intro l0 l1 l2 l3 H G h; exact h.elim
  | succ nn ih =>
    intro l0 l1 l2 l3 H G h
    have h : (e3_ob G 5 l1) ∧ (((l3 : Int) < (H l1 0) → (e3_ob G 5 l1) ∧ (e3_oa G 0 (H l1 5) l3) ∧ (e3_ob G 8 l0) ∧ (wF_rowAt (fun x6 H4 G5 => (((x6 : Int) < 0 → (wF_comesTo_41 Q (fun l0 l1 l2 l3 H G => wF_comesTo_2 Q nn l0 l1 l2 l3 H G) l0 l1 l2 l3 H4 G5)) ∧ (¬ ((x6 : Int) < 0) → (e3_ob G5 11 x6) ∧ (e3_ob G5 9 (H4 x6 0)) ∧ ((((H4 (H4 x6 0) 0) : Int) = l2 → Q 1 H4 G5) ∧ (¬ (((H4 (H4 x6 0) 0) : Int) = l2) → (wF_comesTo_41 Q (fun l0 l1 l2 l3 H G => wF_comesTo_2 Q nn l0 l1 l2 l3 H G) l0 l1 l2 l3 H4 G5)))))) l0 (H (H l1 5) l3) H G)) ∧ (¬ ((l3 : Int) < (H l1 0)) → Q 0 H G)) := h
    obtain ⟨o1, h⟩ := h
    refine e3_K [0, 0, 3] 7 [(2, l0), (2, l1), (0, l2), (0, l3), (3, 0)] [(0, (H l1 0)), (0, l3)] (H) (G) (wZ L xs) (M := tbM146) rfl rfl ⟨o1, trivial⟩ ?_
    refine e3_br (M := tbM146) rfl rfl rfl Iff.rfl (fun hc => ?_) (fun hc => ?_)
    · replace h := h.1 hc
      obtain ⟨o2, o3, h⟩ := h
      refine e3_K [0, 0, 3, 0, 3] 17 [(2, l0), (2, l1), (0, l2), (0, l3), (3, 0)] [(0, (H (H l1 5) l3)), (2, l0)] (H) (G) (wZ L xs) (M := tbM146) rfl rfl ⟨o2, o3, trivial⟩ ?_
      obtain ⟨oz, h⟩ := h
      refine e3_call (o := 1) (k := 104) (M2 := tbM104) (f1 := 0) (w1 := 0) (as := [(2, l0), (0, (H (H l1 5) l3))]) (rest := []) (M := tbM146) rfl rfl rfl oz (Nat.le_of_ble_eq_true rfl) (Nat.le_of_ble_eq_true rfl) (Nat.le_of_ble_eq_true rfl) ?_
      refine e3_mono (sF_rowAt L xs _ _ _ _ _ h) (fun r H4 G5 h => ?_)
      obtain ⟨x6, rfl, h⟩ := h
      change e3_Ev _ _ _ _ 20 [(2, l0), (2, l1), (0, l2), (0, l3), (3, 0)] [(2, x6)] H4 G5 _
      refine e3_K [0, 0] 24 [(2, l0), (2, l1), (0, l2), (0, l3), (2, x6)] [(2, x6)] (H4) (G5) (wZ L xs) (M := tbM146) rfl rfl trivial ?_
      refine e3_br (M := tbM146) rfl rfl rfl Iff.rfl (fun hc => ?_) (fun hc => ?_)
      · replace h := h.1 hc
        refine e3_fgt [true, true, true, true, false] ?_
        exact sF_comesTo_41 L xs Q (fun l0 l1 l2 l3 H G => wF_comesTo_2 Q nn l0 l1 l2 l3 H G) ih _ _ _ _ _ _ h
      · replace h := h.2 hc
        obtain ⟨o7, o8, h⟩ := h
        refine e3_K [0, 3, 3, 0] 36 [(2, l0), (2, l1), (0, l2), (0, l3), (2, x6)] [(0, l2), (0, (H4 (H4 x6 0) 0))] (H4) (G5) (wZ L xs) (M := tbM146) rfl rfl ⟨o7, o8, trivial⟩ ?_
        refine e3_br (M := tbM146) rfl rfl rfl Iff.rfl (fun hc => ?_) (fun hc => ?_)
        · replace h := h.1 hc
          refine e3_K [0] 40 [(2, l0), (2, l1), (0, l2), (0, l3), (2, x6)] [(0, 1)] (H4) (G5) (wZ L xs) (M := tbM146) rfl rfl trivial ?_
          exact e3_retb (M := tbM146) rfl rfl rfl (Or.inr rfl) ⟨_, rfl, h⟩
        · replace h := h.2 hc
          refine e3_fgt [true, true, true, true, false] ?_
          exact sF_comesTo_41 L xs Q (fun l0 l1 l2 l3 H G => wF_comesTo_2 Q nn l0 l1 l2 l3 H G) ih _ _ _ _ _ _ h
    · replace h := h.2 hc
      refine e3_K [0] 48 [(2, l0), (2, l1), (0, l2), (0, l3), (3, 0)] [(0, 0)] (H) (G) (wZ L xs) (M := tbM146) rfl rfl trivial ?_
      exact e3_retb (M := tbM146) rfl rfl rfl (Or.inl rfl) ⟨_, rfl, h⟩
set_option maxRecDepth 100000 in
set_option maxHeartbeats 4000000 in
theorem sF_comesTo (L : Nat) (xs : Nat → Int32) (Q : Int → e3_H → e3_G → Prop) (l0 : Int) (l1 : Int) (l2 : Int) (H : e3_H) (G : e3_G) (h : wF_comesTo Q l0 l1 l2 H G) : e3_Ev (wB L xs) 1 21 146 0 [(2, l0), (2, l1), (0, l2), (3, 0), (3, 0)] [] H G (e3_q0 Q) := by
  unfold wF_comesTo at h
  refine e3_K [0, 0] 2 [(2, l0), (2, l1), (0, l2), (0, 0), (3, 0)] [] (H) (G) (wZ L xs) (M := tbM146) rfl rfl trivial ?_
  obtain ⟨nl, h⟩ := h
  exact sF_comesTo_2 L xs Q nl _ _ _ _ _ _ h
/-- LetterPost.unreached(II)I -/
def wP_unreached_25 (Q : Int → e3_H → e3_G → Prop)  (H : e3_H) (G : e3_G) : Prop :=
  Q (-1) H G
def wP_unreached_66 (Q : Int → e3_H → e3_G → Prop) (s0 : Int) (H : e3_H) (G : e3_G) : Prop :=
  Q s0 H G
def wP_unreached (Q : Int → e3_H → e3_G → Prop) (l1 : Int) (l2 : Int) (H : e3_H) (G : e3_G) : Prop :=
  (wR_functionAt (fun x3 H1 G2 => (((x3 : Int) < 0 → (wP_unreached_25 Q H1 G2)) ∧ (¬ ((x3 : Int) < 0) → (((l2 : Int) < 0 → (wP_unreached_25 Q H1 G2)) ∧ (¬ ((l2 : Int) < 0) → (e3_ob G2 8 x3) ∧ (((l2 : Int) < (H1 x3 3) → (e3_ob G2 8 x3) ∧ (wF_allRows (fun x7 H5 G6 => (wD_draw (fun x10 H8 G9 => (((x10 : Int) = 0 → Q (-3) H8 G9) ∧ (¬ ((x10 : Int) = 0) → (e3_ob G9 8 x3) ∧ (wF_comesTo (fun x13 H11 G12 => (((x13 : Int) = 0 → (wP_unreached_66 Q 1 H11 G12)) ∧ (¬ ((x13 : Int) = 0) → (wP_unreached_66 Q 0 H11 G12)))) x3 (H8 16 1) l2 H8 G9)))) x3 0 x7 H5 G6)) x3 H1 G2)) ∧ (¬ ((l2 : Int) < (H1 x3 3)) → (wP_unreached_25 Q H1 G2)))))))) l1 H G)
set_option maxRecDepth 100000 in
set_option maxHeartbeats 4000000 in
theorem sP_unreached_25 (L : Nat) (xs : Nat → Int32) (Q : Int → e3_H → e3_G → Prop)  (H : e3_H) (G : e3_G) (h : wP_unreached_25 Q  H G) : e3_Ev (wB L xs) 377 10167 145 25 [(3, 0), (3, 0), (3, 0), (3, 0)] [] H G (e3_q0 Q) := by
  unfold wP_unreached_25 at h
  refine e3_K [0] 26 [(3, 0), (3, 0), (3, 0), (3, 0)] [(0, (-1))] (H) (G) (wZ L xs) (M := tbM145) rfl rfl trivial ?_
  exact e3_reti (M := tbM145) rfl rfl rfl ⟨_, rfl, h⟩
set_option maxRecDepth 100000 in
set_option maxHeartbeats 4000000 in
theorem sP_unreached_66 (L : Nat) (xs : Nat → Int32) (Q : Int → e3_H → e3_G → Prop) (s0 : Int) (H : e3_H) (G : e3_G) (h : wP_unreached_66 Q s0 H G) : e3_Ev (wB L xs) 377 10167 145 66 [(3, 0), (3, 0), (3, 0), (3, 0)] [(0, s0)] H G (e3_q0 Q) := by
  unfold wP_unreached_66 at h
  exact e3_reti (M := tbM145) rfl rfl rfl ⟨_, rfl, h⟩
set_option maxRecDepth 100000 in
set_option maxHeartbeats 4000000 in
theorem sP_unreached (L : Nat) (xs : Nat → Int32) (Q : Int → e3_H → e3_G → Prop) (l1 : Int) (l2 : Int) (H : e3_H) (G : e3_G) (h : wP_unreached Q l1 l2 H G) : e3_Ev (wB L xs) 377 10167 145 0 [(2, 2), (0, l1), (0, l2), (3, 0)] [] H G (e3_q0 Q) := by
  unfold wP_unreached at h
  refine e3_K [0, 4, 0] 5 [(2, 2), (0, l1), (0, l2), (3, 0)] [(0, l1), (2, 14)] (H) (G) (wZ L xs) (M := tbM145) rfl rfl ⟨trivial, trivial⟩ ?_
  refine e3_call (o := 0) (k := 83) (M2 := tbM83) (f1 := 0) (w1 := 0) (as := [(2, 14), (0, l1)]) (rest := []) (M := tbM145) rfl rfl rfl trivial (Nat.le_of_ble_eq_true rfl) (Nat.le_of_ble_eq_true rfl) (Nat.le_of_ble_eq_true rfl) ?_
  refine e3_mono (sR_functionAt L xs _ _ _ _ h) (fun r H1 G2 h => ?_)
  obtain ⟨x3, rfl, h⟩ := h
  change e3_Ev _ _ _ _ 8 [(2, 2), (0, l1), (0, l2), (3, 0)] [(2, x3)] H1 G2 _
  refine e3_K [0, 0] 10 [(2, 2), (0, l1), (0, l2), (2, x3)] [(2, x3)] (H1) (G2) (wZ L xs) (M := tbM145) rfl rfl trivial ?_
  refine e3_br (M := tbM145) rfl rfl rfl Iff.rfl (fun hc => ?_) (fun hc => ?_)
  · replace h := h.1 hc
    refine e3_fgt [false, false, false, false] ?_
    exact sP_unreached_25 L xs Q _ _ h
  · replace h := h.2 hc
    refine e3_K [0] 14 [(2, 2), (0, l1), (0, l2), (2, x3)] [(0, l2)] (H1) (G2) (wZ L xs) (M := tbM145) rfl rfl trivial ?_
    refine e3_br (M := tbM145) rfl rfl rfl Iff.rfl (fun hc => ?_) (fun hc => ?_)
    · replace h := h.1 hc
      refine e3_fgt [false, false, false, false] ?_
      exact sP_unreached_25 L xs Q _ _ h
    · replace h := h.2 hc
      obtain ⟨o4, h⟩ := h
      refine e3_K [0, 0, 3] 22 [(2, 2), (0, l1), (0, l2), (2, x3)] [(0, (H1 x3 3)), (0, l2)] (H1) (G2) (wZ L xs) (M := tbM145) rfl rfl ⟨o4, trivial⟩ ?_
      refine e3_br (M := tbM145) rfl rfl rfl Iff.rfl (fun hc => ?_) (fun hc => ?_)
      · replace h := h.1 hc
        refine e3_K [0, 4, 0, 0, 0] 34 [(2, 2), (0, l1), (0, l2), (2, x3)] [(2, x3), (0, 0), (2, x3), (2, 16)] (H1) (G2) (wZ L xs) (M := tbM145) rfl rfl ⟨trivial, trivial⟩ ?_
        obtain ⟨oz, h⟩ := h
        refine e3_call (o := 1) (k := 95) (M2 := tbM95) (f1 := 0) (w1 := 0) (as := [(2, x3)]) (rest := [(0, 0), (2, x3), (2, 16)]) (M := tbM145) rfl rfl rfl oz (Nat.le_of_ble_eq_true rfl) (Nat.le_of_ble_eq_true rfl) (Nat.le_of_ble_eq_true rfl) ?_
        refine e3_mono (sF_allRows L xs _ _ _ _ h) (fun r H5 G6 h => ?_)
        obtain ⟨x7, rfl, h⟩ := h
        change e3_Ev _ _ _ _ 37 [(2, 2), (0, l1), (0, l2), (2, x3)] [(1, x7), (0, 0), (2, x3), (2, 16)] H5 G6 _
        refine e3_call (o := 0) (k := 96) (M2 := tbM96) (f1 := 376) (w1 := 10143) (as := [(2, 16), (2, x3), (0, 0), (1, x7)]) (rest := []) (M := tbM145) rfl rfl rfl trivial (Nat.le_of_ble_eq_true rfl) (Nat.le_of_ble_eq_true rfl) (Nat.le_of_ble_eq_true rfl) ?_
        refine e3_mono (sD_draw L xs _ _ _ _ _ _ h) (fun r H8 G9 h => ?_)
        obtain ⟨x10, rfl, h⟩ := h
        change e3_Ev _ _ _ _ 40 [(2, 2), (0, l1), (0, l2), (2, x3)] [(0, x10)] H8 G9 _
        refine e3_br (M := tbM145) rfl rfl rfl Iff.rfl (fun hc => ?_) (fun hc => ?_)
        · replace h := h.1 hc
          refine e3_K [0] 45 [(2, 2), (0, l1), (0, l2), (2, x3)] [(0, (-3))] (H8) (G9) (wZ L xs) (M := tbM145) rfl rfl trivial ?_
          exact e3_reti (M := tbM145) rfl rfl rfl ⟨_, rfl, h⟩
        · replace h := h.2 hc
          refine e3_K [0, 0, 4, 2, 0] 55 [(2, 2), (0, l1), (0, l2), (2, x3)] [(0, l2), (2, (H8 16 1)), (2, x3)] (H8) (G9) (wZ L xs) (M := tbM145) rfl rfl ⟨trivial, trivial, trivial⟩ ?_
          obtain ⟨oz, h⟩ := h
          refine e3_call (o := 1) (k := 146) (M2 := tbM146) (f1 := 1) (w1 := 21) (as := [(2, x3), (2, (H8 16 1)), (0, l2)]) (rest := []) (M := tbM145) rfl rfl rfl oz (Nat.le_of_ble_eq_true rfl) (Nat.le_of_ble_eq_true rfl) (Nat.le_of_ble_eq_true rfl) ?_
          refine e3_mono (sF_comesTo L xs _ _ _ _ _ _ h) (fun r H11 G12 h => ?_)
          obtain ⟨x13, rfl, h⟩ := h
          change e3_Ev _ _ _ _ 58 [(2, 2), (0, l1), (0, l2), (2, x3)] [(0, x13)] H11 G12 _
          refine e3_br (M := tbM145) rfl rfl rfl Iff.rfl (fun hc => ?_) (fun hc => ?_)
          · replace h := h.1 hc
            refine e3_K [0] 66 [(2, 2), (0, l1), (0, l2), (2, x3)] [(0, 1)] (H11) (G12) (wZ L xs) (M := tbM145) rfl rfl trivial ?_
            refine e3_fgt [false, false, false, false] ?_
            exact sP_unreached_66 L xs Q _ _ _ h
          · replace h := h.2 hc
            refine e3_K [0, 0] 66 [(2, 2), (0, l1), (0, l2), (2, x3)] [(0, 0)] (H11) (G12) (wZ L xs) (M := tbM145) rfl rfl trivial ?_
            refine e3_fgt [false, false, false, false] ?_
            exact sP_unreached_66 L xs Q _ _ _ h
      · replace h := h.2 hc
        refine e3_fgt [false, false, false, false] ?_
        exact sP_unreached_25 L xs Q _ _ h
/-- LetterPost$Letters.haveLikeParts(II)Z -/
def wL_haveLikeParts_2 (Q : Int → e3_H → e3_G → Prop) : Nat → Int → Int → Int → e3_H → e3_G → Prop
  | 0, _, _, _, _, _ => False
  | nn + 1, l1, l2, l3, H, G => ((0 : Int) ≤ l1 ∧ (l1 : Int) < 160) ∧ (((l3 : Int) < (H 30 l1) → ((0 : Int) ≤ (e3_w32 ((e3_w32 (l1 * 4)) + l3)) ∧ ((e3_w32 ((e3_w32 (l1 * 4)) + l3)) : Int) < 640) ∧ ((0 : Int) ≤ (H 31 (e3_w32 ((e3_w32 (l1 * 4)) + l3))) ∧ ((H 31 (e3_w32 ((e3_w32 (l1 * 4)) + l3))) : Int) < 160) ∧ ((0 : Int) ≤ (e3_w32 ((e3_w32 (l2 * 4)) + l3)) ∧ ((e3_w32 ((e3_w32 (l2 * 4)) + l3)) : Int) < 640) ∧ ((0 : Int) ≤ (H 31 (e3_w32 ((e3_w32 (l2 * 4)) + l3))) ∧ ((H 31 (e3_w32 ((e3_w32 (l2 * 4)) + l3))) : Int) < 160) ∧ ((((H 32 (H 31 (e3_w32 ((e3_w32 (l1 * 4)) + l3)))) : Int) = (H 32 (H 31 (e3_w32 ((e3_w32 (l2 * 4)) + l3)))) → (wL_haveLikeParts_2 Q nn l1 l2 (e3_w32 (l3 + 1)) H G)) ∧ (¬ (((H 32 (H 31 (e3_w32 ((e3_w32 (l1 * 4)) + l3)))) : Int) = (H 32 (H 31 (e3_w32 ((e3_w32 (l2 * 4)) + l3))))) → Q 0 H G))) ∧ (¬ ((l3 : Int) < (H 30 l1)) → Q 1 H G))
def wL_haveLikeParts (Q : Int → e3_H → e3_G → Prop) (l1 : Int) (l2 : Int) (H : e3_H) (G : e3_G) : Prop :=
  (∃ n, wL_haveLikeParts_2 Q n l1 l2 0 H G)
set_option maxRecDepth 100000 in
set_option maxHeartbeats 4000000 in
theorem sL_haveLikeParts_2 (L : Nat) (xs : Nat → Int32) (Q : Int → e3_H → e3_G → Prop) : ∀ (nl : Nat) (l1 : Int) (l2 : Int) (l3 : Int) (H : e3_H) (G : e3_G), wL_haveLikeParts_2 Q nl l1 l2 l3 H G → e3_Ev (wB L xs) 0 0 151 2 [(2, 26), (0, l1), (0, l2), (0, l3)] [] H G (e3_q0 Q) := by
  intro nl
  induction nl with
  | zero => intro l1 l2 l3 H G h; exact h.elim
  | succ nn ih =>
    intro l1 l2 l3 H G h
    have h : ((0 : Int) ≤ l1 ∧ (l1 : Int) < 160) ∧ (((l3 : Int) < (H 30 l1) → ((0 : Int) ≤ (e3_w32 ((e3_w32 (l1 * 4)) + l3)) ∧ ((e3_w32 ((e3_w32 (l1 * 4)) + l3)) : Int) < 640) ∧ ((0 : Int) ≤ (H 31 (e3_w32 ((e3_w32 (l1 * 4)) + l3))) ∧ ((H 31 (e3_w32 ((e3_w32 (l1 * 4)) + l3))) : Int) < 160) ∧ ((0 : Int) ≤ (e3_w32 ((e3_w32 (l2 * 4)) + l3)) ∧ ((e3_w32 ((e3_w32 (l2 * 4)) + l3)) : Int) < 640) ∧ ((0 : Int) ≤ (H 31 (e3_w32 ((e3_w32 (l2 * 4)) + l3))) ∧ ((H 31 (e3_w32 ((e3_w32 (l2 * 4)) + l3))) : Int) < 160) ∧ ((((H 32 (H 31 (e3_w32 ((e3_w32 (l1 * 4)) + l3)))) : Int) = (H 32 (H 31 (e3_w32 ((e3_w32 (l2 * 4)) + l3)))) → (wL_haveLikeParts_2 Q nn l1 l2 (e3_w32 (l3 + 1)) H G)) ∧ (¬ (((H 32 (H 31 (e3_w32 ((e3_w32 (l1 * 4)) + l3)))) : Int) = (H 32 (H 31 (e3_w32 ((e3_w32 (l2 * 4)) + l3))))) → Q 0 H G))) ∧ (¬ ((l3 : Int) < (H 30 l1)) → Q 1 H G)) := h
    obtain ⟨o1, h⟩ := h
    refine e3_K [0, 0, 4, 0, 2] 9 [(2, 26), (0, l1), (0, l2), (0, l3)] [(0, (H 30 l1)), (0, l3)] (H) (G) (wZ L xs) (M := tbM151) rfl rfl ⟨trivial, o1, trivial⟩ ?_
    refine e3_br (M := tbM151) rfl rfl rfl Iff.rfl (fun hc => ?_) (fun hc => ?_)
    · replace h := h.1 hc
      obtain ⟨o2, o3, o4, o5, h⟩ := h
      refine e3_K [0, 4, 0, 4, 0, 0, 0, 0, 0, 2, 2, 0, 4, 0, 4, 0, 0, 0, 0, 0, 2, 2] 42 [(2, 26), (0, l1), (0, l2), (0, l3)] [(0, (H 32 (H 31 (e3_w32 ((e3_w32 (l2 * 4)) + l3))))), (0, (H 32 (H 31 (e3_w32 ((e3_w32 (l1 * 4)) + l3)))))] (H) (G) (wZ L xs) (M := tbM151) rfl rfl ⟨trivial, trivial, o2, o3, trivial, trivial, o4, o5, trivial⟩ ?_
      refine e3_br (M := tbM151) rfl rfl rfl Iff.rfl (fun hc => ?_) (fun hc => ?_)
      · replace h := h.1 hc
        refine e3_K [0, 0] 2 [(2, 26), (0, l1), (0, l2), (0, (e3_w32 (l3 + 1)))] [] (H) (G) (wZ L xs) (M := tbM151) rfl rfl trivial ?_
        exact ih _ _ _ _ _ h
      · replace h := h.2 hc
        refine e3_K [0] 46 [(2, 26), (0, l1), (0, l2), (0, l3)] [(0, 0)] (H) (G) (wZ L xs) (M := tbM151) rfl rfl trivial ?_
        exact e3_retb (M := tbM151) rfl rfl rfl (Or.inl rfl) ⟨_, rfl, h⟩
    · replace h := h.2 hc
      refine e3_K [0] 54 [(2, 26), (0, l1), (0, l2), (0, l3)] [(0, 1)] (H) (G) (wZ L xs) (M := tbM151) rfl rfl trivial ?_
      exact e3_retb (M := tbM151) rfl rfl rfl (Or.inr rfl) ⟨_, rfl, h⟩
set_option maxRecDepth 100000 in
set_option maxHeartbeats 4000000 in
theorem sL_haveLikeParts (L : Nat) (xs : Nat → Int32) (Q : Int → e3_H → e3_G → Prop) (l1 : Int) (l2 : Int) (H : e3_H) (G : e3_G) (h : wL_haveLikeParts Q l1 l2 H G) : e3_Ev (wB L xs) 0 0 151 0 [(2, 26), (0, l1), (0, l2), (3, 0)] [] H G (e3_q0 Q) := by
  unfold wL_haveLikeParts at h
  refine e3_K [0, 0] 2 [(2, 26), (0, l1), (0, l2), (0, 0)] [] (H) (G) (wZ L xs) (M := tbM151) rfl rfl trivial ?_
  obtain ⟨nl, h⟩ := h
  exact sL_haveLikeParts_2 L xs Q nl _ _ _ _ _ h
/-- LetterPost$Letters.firstLike(I)I -/
def wL_firstLike_49 (Q : Int → e3_H → e3_G → Prop) (k2 : Int → Int → e3_H → e3_G → Prop) (l1 : Int) (l2 : Int) (H : e3_H) (G : e3_G) : Prop :=
  (k2 l1 (e3_w32 (l2 + 1)) H G)
def wL_firstLike_2 (Q : Int → e3_H → e3_G → Prop) : Nat → Int → Int → e3_H → e3_G → Prop
  | 0, _, _, _, _ => False
  | nn + 1, l1, l2, H, G => (((l2 : Int) < l1 → ((0 : Int) ≤ l2 ∧ (l2 : Int) < 160) ∧ ((0 : Int) ≤ l1 ∧ (l1 : Int) < 160) ∧ ((((H 27 l2) : Int) = (H 27 l1) → ((0 : Int) ≤ l2 ∧ (l2 : Int) < 160) ∧ ((0 : Int) ≤ l1 ∧ (l1 : Int) < 160) ∧ ((((H 28 l2) : Int) = (H 28 l1) → (wL_haveLikeParts (fun x7 H5 G6 => (((x7 : Int) = 0 → (wL_firstLike_49 Q (fun l1 l2 H G => wL_firstLike_2 Q nn l1 l2 H G) l1 l2 H5 G6)) ∧ (¬ ((x7 : Int) = 0) → Q l2 H5 G6))) l2 l1 H G)) ∧ (¬ (((H 28 l2) : Int) = (H 28 l1)) → (wL_firstLike_49 Q (fun l1 l2 H G => wL_firstLike_2 Q nn l1 l2 H G) l1 l2 H G)))) ∧ (¬ (((H 27 l2) : Int) = (H 27 l1)) → (wL_firstLike_49 Q (fun l1 l2 H G => wL_firstLike_2 Q nn l1 l2 H G) l1 l2 H G)))) ∧ (¬ ((l2 : Int) < l1) → Q l1 H G))
def wL_firstLike (Q : Int → e3_H → e3_G → Prop) (l1 : Int) (H : e3_H) (G : e3_G) : Prop :=
  (∃ n, wL_firstLike_2 Q n l1 0 H G)
set_option maxRecDepth 100000 in
set_option maxHeartbeats 4000000 in
theorem sL_firstLike_49 (L : Nat) (xs : Nat → Int32) (Q : Int → e3_H → e3_G → Prop) (k2 : Int → Int → e3_H → e3_G → Prop) (hk2 : ∀ (l1 : Int) (l2 : Int) (H : e3_H) (G : e3_G), k2 l1 l2 H G → e3_Ev (wB L xs) 1 23 150 2 [(2, 26), (0, l1), (0, l2)] [] H G (e3_q0 Q)) (l1 : Int) (l2 : Int) (H : e3_H) (G : e3_G) (h : wL_firstLike_49 Q k2 l1 l2 H G) : e3_Ev (wB L xs) 1 23 150 49 [(2, 26), (0, l1), (0, l2)] [] H G (e3_q0 Q) := by
  unfold wL_firstLike_49 at h
  refine e3_K [0, 0] 2 [(2, 26), (0, l1), (0, (e3_w32 (l2 + 1)))] [] (H) (G) (wZ L xs) (M := tbM150) rfl rfl trivial ?_
  exact hk2 _ _ _ _ h
set_option maxRecDepth 100000 in
set_option maxHeartbeats 4000000 in
theorem sL_firstLike_2 (L : Nat) (xs : Nat → Int32) (Q : Int → e3_H → e3_G → Prop) : ∀ (nl : Nat) (l1 : Int) (l2 : Int) (H : e3_H) (G : e3_G), wL_firstLike_2 Q nl l1 l2 H G → e3_Ev (wB L xs) 1 23 150 2 [(2, 26), (0, l1), (0, l2)] [] H G (e3_q0 Q) := by
  intro nl
  induction nl with
  | zero => intro l1 l2 H G h; exact h.elim
  | succ nn ih =>
    intro l1 l2 H G h
    have h : (((l2 : Int) < l1 → ((0 : Int) ≤ l2 ∧ (l2 : Int) < 160) ∧ ((0 : Int) ≤ l1 ∧ (l1 : Int) < 160) ∧ ((((H 27 l2) : Int) = (H 27 l1) → ((0 : Int) ≤ l2 ∧ (l2 : Int) < 160) ∧ ((0 : Int) ≤ l1 ∧ (l1 : Int) < 160) ∧ ((((H 28 l2) : Int) = (H 28 l1) → (wL_haveLikeParts (fun x7 H5 G6 => (((x7 : Int) = 0 → (wL_firstLike_49 Q (fun l1 l2 H G => wL_firstLike_2 Q nn l1 l2 H G) l1 l2 H5 G6)) ∧ (¬ ((x7 : Int) = 0) → Q l2 H5 G6))) l2 l1 H G)) ∧ (¬ (((H 28 l2) : Int) = (H 28 l1)) → (wL_firstLike_49 Q (fun l1 l2 H G => wL_firstLike_2 Q nn l1 l2 H G) l1 l2 H G)))) ∧ (¬ (((H 27 l2) : Int) = (H 27 l1)) → (wL_firstLike_49 Q (fun l1 l2 H G => wL_firstLike_2 Q nn l1 l2 H G) l1 l2 H G)))) ∧ (¬ ((l2 : Int) < l1) → Q l1 H G)) := h
    refine e3_K [0, 0] 4 [(2, 26), (0, l1), (0, l2)] [(0, l1), (0, l2)] (H) (G) (wZ L xs) (M := tbM150) rfl rfl trivial ?_
    refine e3_br (M := tbM150) rfl rfl rfl Iff.rfl (fun hc => ?_) (fun hc => ?_)
    · replace h := h.1 hc
      obtain ⟨o1, o2, h⟩ := h
      refine e3_K [0, 4, 0, 2, 0, 4, 0, 2] 19 [(2, 26), (0, l1), (0, l2)] [(0, (H 27 l1)), (0, (H 27 l2))] (H) (G) (wZ L xs) (M := tbM150) rfl rfl ⟨trivial, o1, trivial, o2, trivial⟩ ?_
      refine e3_br (M := tbM150) rfl rfl rfl Iff.rfl (fun hc => ?_) (fun hc => ?_)
      · replace h := h.1 hc
        obtain ⟨o3, o4, h⟩ := h
        refine e3_K [0, 4, 0, 2, 0, 4, 0, 2, 0] 35 [(2, 26), (0, l1), (0, l2)] [(0, (e3_cmp (H 28 l2) (H 28 l1)))] (H) (G) (wZ L xs) (M := tbM150) rfl rfl ⟨trivial, o3, trivial, o4, trivial⟩ ?_
        refine e3_br (M := tbM150) rfl rfl rfl e3_cmp_eq (fun hc => ?_) (fun hc => ?_)
        · replace h := h.1 hc
          refine e3_K [0, 0, 0] 41 [(2, 26), (0, l1), (0, l2)] [(0, l1), (0, l2), (2, 26)] (H) (G) (wZ L xs) (M := tbM150) rfl rfl trivial ?_
          refine e3_call (o := 0) (k := 151) (M2 := tbM151) (f1 := 0) (w1 := 0) (as := [(2, 26), (0, l2), (0, l1)]) (rest := []) (M := tbM150) rfl rfl rfl trivial (Nat.le_of_ble_eq_true rfl) (Nat.le_of_ble_eq_true rfl) (Nat.le_of_ble_eq_true rfl) ?_
          refine e3_mono (sL_haveLikeParts L xs _ _ _ _ _ h) (fun r H5 G6 h => ?_)
          obtain ⟨x7, rfl, h⟩ := h
          change e3_Ev _ _ _ _ 44 [(2, 26), (0, l1), (0, l2)] [(0, x7)] H5 G6 _
          refine e3_br (M := tbM150) rfl rfl rfl Iff.rfl (fun hc => ?_) (fun hc => ?_)
          · replace h := h.1 hc
            exact sL_firstLike_49 L xs Q (fun l1 l2 H G => wL_firstLike_2 Q nn l1 l2 H G) ih _ _ _ _ h
          · replace h := h.2 hc
            refine e3_K [0] 48 [(2, 26), (0, l1), (0, l2)] [(0, l2)] (H5) (G6) (wZ L xs) (M := tbM150) rfl rfl trivial ?_
            exact e3_reti (M := tbM150) rfl rfl rfl ⟨_, rfl, h⟩
        · replace h := h.2 hc
          exact sL_firstLike_49 L xs Q (fun l1 l2 H G => wL_firstLike_2 Q nn l1 l2 H G) ih _ _ _ _ h
      · replace h := h.2 hc
        exact sL_firstLike_49 L xs Q (fun l1 l2 H G => wL_firstLike_2 Q nn l1 l2 H G) ih _ _ _ _ h
    · replace h := h.2 hc
      refine e3_K [0] 56 [(2, 26), (0, l1), (0, l2)] [(0, l1)] (H) (G) (wZ L xs) (M := tbM150) rfl rfl trivial ?_
      exact e3_reti (M := tbM150) rfl rfl rfl ⟨_, rfl, h⟩
set_option maxRecDepth 100000 in
set_option maxHeartbeats 4000000 in
theorem sL_firstLike (L : Nat) (xs : Nat → Int32) (Q : Int → e3_H → e3_G → Prop) (l1 : Int) (H : e3_H) (G : e3_G) (h : wL_firstLike Q l1 H G) : e3_Ev (wB L xs) 1 23 150 0 [(2, 26), (0, l1), (3, 0)] [] H G (e3_q0 Q) := by
  unfold wL_firstLike at h
  refine e3_K [0, 0] 2 [(2, 26), (0, l1), (0, 0)] [] (H) (G) (wZ L xs) (M := tbM150) rfl rfl trivial ?_
  obtain ⟨nl, h⟩ := h
  exact sL_firstLike_2 L xs Q nl _ _ _ _ h
/-- LetterPost$Letters.putSized(IJII)I -/
def wL_putSized_17 (Q : Int → e3_H → e3_G → Prop)  (H : e3_H) (G : e3_G) : Prop :=
  Q (-3) H G
def wL_putSized (Q : Int → e3_H → e3_G → Prop) (l1 : Int) (l2 : Int) (l4 : Int) (l5 : Int) (H : e3_H) (G : e3_G) : Prop :=
  ((((H 26 1) : Int) < 160 → (((60 : Int) < l4 → (wL_putSized_17 Q H G)) ∧ (¬ ((60 : Int) < l4) → ((0 : Int) ≤ (H 26 1) ∧ ((H 26 1) : Int) < 160) ∧ ∀ H1 : e3_H, H1 = e3_up H 27 (H 26 1) l1 → ((0 : Int) ≤ (H 26 1) ∧ ((H 26 1) : Int) < 160) ∧ ∀ H3 : e3_H, H3 = e3_up H1 28 (H 26 1) l2 → ((0 : Int) ≤ (H 26 1) ∧ ((H 26 1) : Int) < 160) ∧ ∀ H5 : e3_H, H5 = e3_up H3 29 (H 26 1) l4 → ((0 : Int) ≤ (H 26 1) ∧ ((H 26 1) : Int) < 160) ∧ ∀ H7 : e3_H, H7 = e3_up H5 30 (H 26 1) l5 → (e3_co G 33 0 31 (e3_w32 ((H 26 1) * 4)) l5) ∧ ∀ H9 : e3_H, H9 = e3_cpy H7 33 0 31 (e3_w32 ((H 26 1) * 4)) l5 → (wL_firstLike (fun x12 H10 G11 => ((0 : Int) ≤ (H 26 1) ∧ ((H 26 1) : Int) < 160) ∧ ∀ H13 : e3_H, H13 = e3_up H10 32 (H 26 1) x12 → ∀ H15 : e3_H, H15 = e3_up H13 26 1 (e3_w32 ((H13 26 1) + 1)) → Q (H 26 1) H15 G11) (H 26 1) H9 G)))) ∧ (¬ (((H 26 1) : Int) < 160) → (wL_putSized_17 Q H G)))
set_option maxRecDepth 100000 in
set_option maxHeartbeats 4000000 in
theorem sL_putSized_17 (L : Nat) (xs : Nat → Int32) (Q : Int → e3_H → e3_G → Prop)  (H : e3_H) (G : e3_G) (h : wL_putSized_17 Q  H G) : e3_Ev (wB L xs) 2 80 149 17 [(3, 0), (3, 0), (3, 0), (3, 0), (3, 0), (3, 0), (3, 0)] [] H G (e3_q0 Q) := by
  unfold wL_putSized_17 at h
  refine e3_K [0] 19 [(3, 0), (3, 0), (3, 0), (3, 0), (3, 0), (3, 0), (3, 0)] [(0, (-3))] (H) (G) (wZ L xs) (M := tbM149) rfl rfl trivial ?_
  exact e3_reti (M := tbM149) rfl rfl rfl ⟨_, rfl, h⟩
set_option maxRecDepth 100000 in
set_option maxHeartbeats 4000000 in
theorem sL_putSized (L : Nat) (xs : Nat → Int32) (Q : Int → e3_H → e3_G → Prop) (l1 : Int) (l2 : Int) (l4 : Int) (l5 : Int) (H : e3_H) (G : e3_G) (h : wL_putSized Q l1 l2 l4 l5 H G) : e3_Ev (wB L xs) 2 80 149 0 [(2, 26), (0, l1), (1, l2), (3, 0), (0, l4), (0, l5), (3, 0)] [] H G (e3_q0 Q) := by
  unfold wL_putSized at h
  refine e3_K [0, 2, 0] 7 [(2, 26), (0, l1), (1, l2), (3, 0), (0, l4), (0, l5), (3, 0)] [(0, 160), (0, (H 26 1))] (H) (G) (wZ L xs) (M := tbM149) rfl rfl ⟨trivial, trivial⟩ ?_
  refine e3_br (M := tbM149) rfl rfl rfl Iff.rfl (fun hc => ?_) (fun hc => ?_)
  · replace h := h.1 hc
    refine e3_K [0, 0] 14 [(2, 26), (0, l1), (1, l2), (3, 0), (0, l4), (0, l5), (3, 0)] [(0, 60), (0, l4)] (H) (G) (wZ L xs) (M := tbM149) rfl rfl trivial ?_
    refine e3_br (M := tbM149) rfl rfl rfl Iff.rfl (fun hc => ?_) (fun hc => ?_)
    · replace h := h.1 hc
      refine e3_fgt [false, false, false, false, false, false, false] ?_
      exact sL_putSized_17 L xs Q _ _ h
    · replace h := h.2 hc
      obtain ⟨o2, h⟩ := h
      refine e3_K [0, 2, 0, 0, 4, 0, 0, 2] 34 [(2, 26), (0, l1), (1, l2), (3, 0), (0, l4), (0, l5), (0, (H 26 1))] [] (e3_up H 27 (H 26 1) l1) (G) (wZ L xs) (M := tbM149) rfl rfl ⟨trivial, trivial, o2, trivial⟩ ?_
      generalize hH1 : (e3_up H 27 (H 26 1) l1) = H1
      replace h := h H1 hH1.symm
      obtain ⟨o4, h⟩ := h
      refine e3_K [0, 4, 0, 0, 2] 42 [(2, 26), (0, l1), (1, l2), (3, 0), (0, l4), (0, l5), (0, (H 26 1))] [] (e3_up H1 28 (H 26 1) l2) (G) (wZ L xs) (M := tbM149) rfl rfl ⟨trivial, o4, trivial⟩ ?_
      generalize hH3 : (e3_up H1 28 (H 26 1) l2) = H3
      replace h := h H3 hH3.symm
      obtain ⟨o6, h⟩ := h
      refine e3_K [0, 4, 0, 0, 2] 51 [(2, 26), (0, l1), (1, l2), (3, 0), (0, l4), (0, l5), (0, (H 26 1))] [] (e3_up H3 29 (H 26 1) l4) (G) (wZ L xs) (M := tbM149) rfl rfl ⟨trivial, o6, trivial⟩ ?_
      generalize hH5 : (e3_up H3 29 (H 26 1) l4) = H5
      replace h := h H5 hH5.symm
      obtain ⟨o8, h⟩ := h
      refine e3_K [0, 4, 0, 0, 2] 60 [(2, 26), (0, l1), (1, l2), (3, 0), (0, l4), (0, l5), (0, (H 26 1))] [] (e3_up H5 30 (H 26 1) l5) (G) (wZ L xs) (M := tbM149) rfl rfl ⟨trivial, o8, trivial⟩ ?_
      generalize hH7 : (e3_up H5 30 (H 26 1) l5) = H7
      replace h := h H7 hH7.symm
      refine e3_K [0, 4, 0, 0, 4, 0, 0, 0, 0] 75 [(2, 26), (0, l1), (1, l2), (3, 0), (0, l4), (0, l5), (0, (H 26 1))] [(0, l5), (0, (e3_w32 ((H 26 1) * 4))), (2, 31), (0, 0), (2, 33)] (H7) (G) (wZ L xs) (M := tbM149) rfl rfl ⟨trivial, trivial, trivial⟩ ?_
      obtain ⟨oz, h⟩ := h
      refine e3_cp2 (M := tbM149) rfl rfl rfl oz (Nat.le_of_ble_eq_true rfl) (Nat.le_of_ble_eq_true rfl) ?_
      generalize hH9 : e3_cpy H7 33 0 31 (e3_w32 ((H 26 1) * 4)) l5 = H9
      replace h := h H9 hH9.symm
      refine e3_K [0, 4, 0, 0, 0] 87 [(2, 26), (0, l1), (1, l2), (3, 0), (0, l4), (0, l5), (0, (H 26 1))] [(0, (H 26 1)), (2, 26), (0, (H 26 1)), (2, 32)] (H9) (G) (wZ L xs) (M := tbM149) rfl rfl ⟨trivial, trivial⟩ ?_
      refine e3_call (o := 0) (k := 150) (M2 := tbM150) (f1 := 1) (w1 := 23) (as := [(2, 26), (0, (H 26 1))]) (rest := [(0, (H 26 1)), (2, 32)]) (M := tbM149) rfl rfl rfl trivial (Nat.le_of_ble_eq_true rfl) (Nat.le_of_ble_eq_true rfl) (Nat.le_of_ble_eq_true rfl) ?_
      refine e3_mono (sL_firstLike L xs _ _ _ _ h) (fun r H10 G11 h => ?_)
      obtain ⟨x12, rfl, h⟩ := h
      change e3_Ev _ _ _ _ 90 [(2, 26), (0, l1), (1, l2), (3, 0), (0, l4), (0, l5), (0, (H 26 1))] [(0, x12), (0, (H 26 1)), (2, 32)] H10 G11 _
      obtain ⟨o14, h⟩ := h
      refine e3_K [2] 91 [(2, 26), (0, l1), (1, l2), (3, 0), (0, l4), (0, l5), (0, (H 26 1))] [] (e3_up H10 32 (H 26 1) x12) (G11) (wZ L xs) (M := tbM149) rfl rfl ⟨o14, trivial⟩ ?_
      generalize hH13 : (e3_up H10 32 (H 26 1) x12) = H13
      replace h := h H13 hH13.symm
      refine e3_K [0, 0, 2, 0, 0, 2] 101 [(2, 26), (0, l1), (1, l2), (3, 0), (0, l4), (0, l5), (0, (H 26 1))] [] (e3_up H13 26 1 (e3_w32 ((H13 26 1) + 1))) (G11) (wZ L xs) (M := tbM149) rfl rfl ⟨trivial, trivial, trivial⟩ ?_
      generalize hH15 : (e3_up H13 26 1 (e3_w32 ((H13 26 1) + 1))) = H15
      replace h := h H15 hH15.symm
      refine e3_K [0] 103 [(2, 26), (0, l1), (1, l2), (3, 0), (0, l4), (0, l5), (0, (H 26 1))] [(0, (H 26 1))] (H15) (G11) (wZ L xs) (M := tbM149) rfl rfl trivial ?_
      exact e3_reti (M := tbM149) rfl rfl rfl ⟨_, rfl, h⟩
  · replace h := h.2 hc
    refine e3_fgt [false, false, false, false, false, false, false] ?_
    exact sL_putSized_17 L xs Q _ _ h
/-- LetterPost$Letters.put(IJ)I -/
def wL_put (Q : Int → e3_H → e3_G → Prop) (l1 : Int) (l2 : Int) (H : e3_H) (G : e3_G) : Prop :=
  (wL_putSized (fun x3 H1 G2 => Q x3 H1 G2) l1 l2 1 0 H G)
set_option maxRecDepth 100000 in
set_option maxHeartbeats 4000000 in
theorem sL_put (L : Nat) (xs : Nat → Int32) (Q : Int → e3_H → e3_G → Prop) (l1 : Int) (l2 : Int) (H : e3_H) (G : e3_G) (h : wL_put Q l1 l2 H G) : e3_Ev (wB L xs) 3 106 148 0 [(2, 26), (0, l1), (1, l2), (3, 0)] [] H G (e3_q0 Q) := by
  unfold wL_put at h
  refine e3_K [0, 0, 0, 0, 0] 5 [(2, 26), (0, l1), (1, l2), (3, 0)] [(0, 0), (0, 1), (1, l2), (0, l1), (2, 26)] (H) (G) (wZ L xs) (M := tbM148) rfl rfl trivial ?_
  refine e3_call (o := 0) (k := 149) (M2 := tbM149) (f1 := 2) (w1 := 80) (as := [(2, 26), (0, l1), (1, l2), (0, 1), (0, 0)]) (rest := []) (M := tbM148) rfl rfl rfl trivial (Nat.le_of_ble_eq_true rfl) (Nat.le_of_ble_eq_true rfl) (Nat.le_of_ble_eq_true rfl) ?_
  refine e3_mono (sL_putSized L xs _ _ _ _ _ _ _ h) (fun r H1 G2 h => ?_)
  obtain ⟨x3, rfl, h⟩ := h
  change e3_Ev _ _ _ _ 8 [(2, 26), (0, l1), (1, l2), (3, 0)] [(0, x3)] H1 G2 _
  exact e3_reti (M := tbM148) rfl rfl rfl ⟨_, rfl, h⟩
/-- LetterPost.whole(I)I -/
def wP_whole (Q : Int → e3_H → e3_G → Prop) (l1 : Int) (H : e3_H) (G : e3_G) : Prop :=
  (wL_put (fun x3 H1 G2 => Q x3 H1 G2) 0 l1 H G)
set_option maxRecDepth 100000 in
set_option maxHeartbeats 4000000 in
theorem sP_whole (L : Nat) (xs : Nat → Int32) (Q : Int → e3_H → e3_G → Prop) (l1 : Int) (H : e3_H) (G : e3_G) (h : wP_whole Q l1 H G) : e3_Ev (wB L xs) 4 129 147 0 [(2, 2), (0, l1)] [] H G (e3_q0 Q) := by
  unfold wP_whole at h
  refine e3_K [0, 4, 0, 0, 0] 7 [(2, 2), (0, l1)] [(1, l1), (0, 0), (2, 26)] (H) (G) (wZ L xs) (M := tbM147) rfl rfl ⟨trivial, trivial⟩ ?_
  refine e3_call (o := 0) (k := 148) (M2 := tbM148) (f1 := 3) (w1 := 106) (as := [(2, 26), (0, 0), (1, l1)]) (rest := []) (M := tbM147) rfl rfl rfl trivial (Nat.le_of_ble_eq_true rfl) (Nat.le_of_ble_eq_true rfl) (Nat.le_of_ble_eq_true rfl) ?_
  refine e3_mono (sL_put L xs _ _ _ _ _ h) (fun r H1 G2 h => ?_)
  obtain ⟨x3, rfl, h⟩ := h
  change e3_Ev _ _ _ _ 10 [(2, 2), (0, l1)] [(0, x3)] H1 G2 _
  exact e3_reti (M := tbM147) rfl rfl rfl ⟨_, rfl, h⟩
/-- LetterPost.truth(I)I -/
def wP_truth_14 (Q : Int → e3_H → e3_G → Prop) (s0 : Int) (s1 : Int) (H : e3_H) (G : e3_G) : Prop :=
  (wL_put (fun x3 H1 G2 => Q x3 H1 G2) s1 s0 H G)
def wP_truth (Q : Int → e3_H → e3_G → Prop) (l1 : Int) (H : e3_H) (G : e3_G) : Prop :=
  (((l1 : Int) = 0 → (wP_truth_14 Q 0 1 H G)) ∧ (¬ ((l1 : Int) = 0) → (wP_truth_14 Q 1 1 H G)))
set_option maxRecDepth 100000 in
set_option maxHeartbeats 4000000 in
theorem sP_truth_14 (L : Nat) (xs : Nat → Int32) (Q : Int → e3_H → e3_G → Prop) (s0 : Int) (s1 : Int) (H : e3_H) (G : e3_G) (h : wP_truth_14 Q s0 s1 H G) : e3_Ev (wB L xs) 4 129 152 14 [(3, 0), (3, 0)] [(1, s0), (0, s1), (2, 26)] H G (e3_q0 Q) := by
  unfold wP_truth_14 at h
  refine e3_call (o := 0) (k := 148) (M2 := tbM148) (f1 := 3) (w1 := 106) (as := [(2, 26), (0, s1), (1, s0)]) (rest := []) (M := tbM152) rfl rfl rfl trivial (Nat.le_of_ble_eq_true rfl) (Nat.le_of_ble_eq_true rfl) (Nat.le_of_ble_eq_true rfl) ?_
  refine e3_mono (sL_put L xs _ _ _ _ _ h) (fun r H1 G2 h => ?_)
  obtain ⟨x3, rfl, h⟩ := h
  change e3_Ev _ _ _ _ 17 [(3, 0), (3, 0)] [(0, x3)] H1 G2 _
  exact e3_reti (M := tbM152) rfl rfl rfl ⟨_, rfl, h⟩
set_option maxRecDepth 100000 in
set_option maxHeartbeats 4000000 in
theorem sP_truth (L : Nat) (xs : Nat → Int32) (Q : Int → e3_H → e3_G → Prop) (l1 : Int) (H : e3_H) (G : e3_G) (h : wP_truth Q l1 H G) : e3_Ev (wB L xs) 4 129 152 0 [(2, 2), (0, l1)] [] H G (e3_q0 Q) := by
  unfold wP_truth at h
  refine e3_K [0, 4, 0, 0] 6 [(2, 2), (0, l1)] [(0, l1), (0, 1), (2, 26)] (H) (G) (wZ L xs) (M := tbM152) rfl rfl ⟨trivial, trivial⟩ ?_
  refine e3_br (M := tbM152) rfl rfl rfl Iff.rfl (fun hc => ?_) (fun hc => ?_)
  · replace h := h.1 hc
    refine e3_K [0, 0] 14 [(2, 2), (0, l1)] [(1, 0), (0, 1), (2, 26)] (H) (G) (wZ L xs) (M := tbM152) rfl rfl trivial ?_
    refine e3_fgt [false, false] ?_
    exact sP_truth_14 L xs Q _ _ _ _ h
  · replace h := h.2 hc
    refine e3_K [0] 14 [(2, 2), (0, l1)] [(1, 1), (0, 1), (2, 26)] (H) (G) (wZ L xs) (M := tbM152) rfl rfl trivial ?_
    refine e3_fgt [false, false] ?_
    exact sP_truth_14 L xs Q _ _ _ _ h
/-- LetterPost$Letters.isText(J)Z -/
def wL_isText_54 (Q : Int → e3_H → e3_G → Prop) (k5 : Int → Int → Int → e3_H → e3_G → Prop) (l0 : Int) (l2 : Int) (l3 : Int) (H : e3_H) (G : e3_G) : Prop :=
  (k5 l0 l2 (e3_w32 (l3 + (-8))) H G)
def wL_isText_52 (Q : Int → e3_H → e3_G → Prop)  (H : e3_H) (G : e3_G) : Prop :=
  Q 0 H G
def wL_isText_33 (Q : Int → e3_H → e3_G → Prop) (k5 : Int → Int → Int → e3_H → e3_G → Prop) (l0 : Int) (l3 : Int) (l4 : Int) (s0 : Int) (H : e3_H) (G : e3_G) : Prop :=
  (((s0 : Int) = 0 → (wL_isText_54 Q k5 l0 s0 l3 H G)) ∧ (¬ ((s0 : Int) = 0) → (((l4 : Int) < 97 → (wL_isText_52 Q H G)) ∧ (¬ ((l4 : Int) < 97) → (((122 : Int) < l4 → (wL_isText_52 Q H G)) ∧ (¬ ((122 : Int) < l4) → (wL_isText_54 Q k5 l0 s0 l3 H G)))))))
def wL_isText_28 (Q : Int → e3_H → e3_G → Prop) (k5 : Int → Int → Int → e3_H → e3_G → Prop) (l0 : Int) (l3 : Int) (l4 : Int) (H : e3_H) (G : e3_G) : Prop :=
  (wL_isText_33 Q k5 l0 l3 l4 1 H G)
def wL_isText_5 (Q : Int → e3_H → e3_G → Prop) : Nat → Int → Int → Int → e3_H → e3_G → Prop
  | 0, _, _, _, _, _ => False
  | nn + 1, l0, l2, l3, H, G => (((l3 : Int) < 0 → Q 1 H G) ∧ (¬ ((l3 : Int) < 0) → (((l2 : Int) = 0 → ((((e3_w32 (e3_land (e3_lushr l0 l3) 255)) : Int) = 0 → (wL_isText_33 Q (fun l0 l2 l3 H G => wL_isText_5 Q nn l0 l2 l3 H G) l0 l3 (e3_w32 (e3_land (e3_lushr l0 l3) 255)) 0 H G)) ∧ (¬ (((e3_w32 (e3_land (e3_lushr l0 l3) 255)) : Int) = 0) → (wL_isText_28 Q (fun l0 l2 l3 H G => wL_isText_5 Q nn l0 l2 l3 H G) l0 l3 (e3_w32 (e3_land (e3_lushr l0 l3) 255)) H G)))) ∧ (¬ ((l2 : Int) = 0) → (wL_isText_28 Q (fun l0 l2 l3 H G => wL_isText_5 Q nn l0 l2 l3 H G) l0 l3 (e3_w32 (e3_land (e3_lushr l0 l3) 255)) H G)))))
def wL_isText (Q : Int → e3_H → e3_G → Prop) (l0 : Int) (H : e3_H) (G : e3_G) : Prop :=
  (∃ n, wL_isText_5 Q n l0 0 56 H G)
set_option maxRecDepth 100000 in
set_option maxHeartbeats 4000000 in
theorem sL_isText_54 (L : Nat) (xs : Nat → Int32) (Q : Int → e3_H → e3_G → Prop) (k5 : Int → Int → Int → e3_H → e3_G → Prop) (hk5 : ∀ (l0 : Int) (l2 : Int) (l3 : Int) (H : e3_H) (G : e3_G), k5 l0 l2 l3 H G → e3_Ev (wB L xs) 0 0 154 5 [(1, l0), (3, 0), (0, l2), (0, l3), (3, 0)] [] H G (e3_q0 Q)) (l0 : Int) (l2 : Int) (l3 : Int) (H : e3_H) (G : e3_G) (h : wL_isText_54 Q k5 l0 l2 l3 H G) : e3_Ev (wB L xs) 0 0 154 54 [(1, l0), (3, 0), (0, l2), (0, l3), (3, 0)] [] H G (e3_q0 Q) := by
  unfold wL_isText_54 at h
  refine e3_K [0, 0] 5 [(1, l0), (3, 0), (0, l2), (0, (e3_w32 (l3 + (-8)))), (3, 0)] [] (H) (G) (wZ L xs) (M := tbM154) rfl rfl trivial ?_
  exact hk5 _ _ _ _ _ h
set_option maxRecDepth 100000 in
set_option maxHeartbeats 4000000 in
theorem sL_isText_52 (L : Nat) (xs : Nat → Int32) (Q : Int → e3_H → e3_G → Prop)  (H : e3_H) (G : e3_G) (h : wL_isText_52 Q  H G) : e3_Ev (wB L xs) 0 0 154 52 [(3, 0), (3, 0), (3, 0), (3, 0), (3, 0)] [] H G (e3_q0 Q) := by
  unfold wL_isText_52 at h
  refine e3_K [0] 53 [(3, 0), (3, 0), (3, 0), (3, 0), (3, 0)] [(0, 0)] (H) (G) (wZ L xs) (M := tbM154) rfl rfl trivial ?_
  exact e3_retb (M := tbM154) rfl rfl rfl (Or.inl rfl) ⟨_, rfl, h⟩
set_option maxRecDepth 100000 in
set_option maxHeartbeats 4000000 in
theorem sL_isText_33 (L : Nat) (xs : Nat → Int32) (Q : Int → e3_H → e3_G → Prop) (k5 : Int → Int → Int → e3_H → e3_G → Prop) (hk5 : ∀ (l0 : Int) (l2 : Int) (l3 : Int) (H : e3_H) (G : e3_G), k5 l0 l2 l3 H G → e3_Ev (wB L xs) 0 0 154 5 [(1, l0), (3, 0), (0, l2), (0, l3), (3, 0)] [] H G (e3_q0 Q)) (l0 : Int) (l3 : Int) (l4 : Int) (s0 : Int) (H : e3_H) (G : e3_G) (h : wL_isText_33 Q k5 l0 l3 l4 s0 H G) : e3_Ev (wB L xs) 0 0 154 33 [(1, l0), (3, 0), (3, 0), (0, l3), (0, l4)] [(0, s0)] H G (e3_q0 Q) := by
  unfold wL_isText_33 at h
  refine e3_K [0, 0] 35 [(1, l0), (3, 0), (0, s0), (0, l3), (0, l4)] [(0, s0)] (H) (G) (wZ L xs) (M := tbM154) rfl rfl trivial ?_
  refine e3_br (M := tbM154) rfl rfl rfl Iff.rfl (fun hc => ?_) (fun hc => ?_)
  · replace h := h.1 hc
    refine e3_fgt [true, false, true, true, false] ?_
    exact sL_isText_54 L xs Q k5 hk5 _ _ _ _ _ h
  · replace h := h.2 hc
    refine e3_K [0, 0] 42 [(1, l0), (3, 0), (0, s0), (0, l3), (0, l4)] [(0, 97), (0, l4)] (H) (G) (wZ L xs) (M := tbM154) rfl rfl trivial ?_
    refine e3_br (M := tbM154) rfl rfl rfl Iff.rfl (fun hc => ?_) (fun hc => ?_)
    · replace h := h.1 hc
      refine e3_fgt [false, false, false, false, false] ?_
      exact sL_isText_52 L xs Q _ _ h
    · replace h := h.2 hc
      refine e3_K [0, 0] 49 [(1, l0), (3, 0), (0, s0), (0, l3), (0, l4)] [(0, 122), (0, l4)] (H) (G) (wZ L xs) (M := tbM154) rfl rfl trivial ?_
      refine e3_br (M := tbM154) rfl rfl rfl Iff.rfl (fun hc => ?_) (fun hc => ?_)
      · replace h := h.1 hc
        refine e3_fgt [false, false, false, false, false] ?_
        exact sL_isText_52 L xs Q _ _ h
      · replace h := h.2 hc
        refine e3_fgt [true, false, true, true, false] ?_
        exact sL_isText_54 L xs Q k5 hk5 _ _ _ _ _ h
set_option maxRecDepth 100000 in
set_option maxHeartbeats 4000000 in
theorem sL_isText_28 (L : Nat) (xs : Nat → Int32) (Q : Int → e3_H → e3_G → Prop) (k5 : Int → Int → Int → e3_H → e3_G → Prop) (hk5 : ∀ (l0 : Int) (l2 : Int) (l3 : Int) (H : e3_H) (G : e3_G), k5 l0 l2 l3 H G → e3_Ev (wB L xs) 0 0 154 5 [(1, l0), (3, 0), (0, l2), (0, l3), (3, 0)] [] H G (e3_q0 Q)) (l0 : Int) (l3 : Int) (l4 : Int) (H : e3_H) (G : e3_G) (h : wL_isText_28 Q k5 l0 l3 l4 H G) : e3_Ev (wB L xs) 0 0 154 28 [(1, l0), (3, 0), (3, 0), (0, l3), (0, l4)] [] H G (e3_q0 Q) := by
  unfold wL_isText_28 at h
  refine e3_K [0, 0] 33 [(1, l0), (3, 0), (3, 0), (0, l3), (0, l4)] [(0, 1)] (H) (G) (wZ L xs) (M := tbM154) rfl rfl trivial ?_
  exact sL_isText_33 L xs Q k5 hk5 _ _ _ _ _ _ h
set_option maxRecDepth 100000 in
set_option maxHeartbeats 4000000 in
theorem sL_isText_5 (L : Nat) (xs : Nat → Int32) (Q : Int → e3_H → e3_G → Prop) : ∀ (nl : Nat) (l0 : Int) (l2 : Int) (l3 : Int) (H : e3_H) (G : e3_G), wL_isText_5 Q nl l0 l2 l3 H G → e3_Ev (wB L xs) 0 0 154 5 [(1, l0), (3, 0), (0, l2), (0, l3), (3, 0)] [] H G (e3_q0 Q) := by
  intro nl
  induction nl with
  | zero => intro l0 l2 l3 H G h; exact h.elim
  | succ nn ih =>
    intro l0 l2 l3 H G h
    have h : (((l3 : Int) < 0 → Q 1 H G) ∧ (¬ ((l3 : Int) < 0) → (((l2 : Int) = 0 → ((((e3_w32 (e3_land (e3_lushr l0 l3) 255)) : Int) = 0 → (wL_isText_33 Q (fun l0 l2 l3 H G => wL_isText_5 Q nn l0 l2 l3 H G) l0 l3 (e3_w32 (e3_land (e3_lushr l0 l3) 255)) 0 H G)) ∧ (¬ (((e3_w32 (e3_land (e3_lushr l0 l3) 255)) : Int) = 0) → (wL_isText_28 Q (fun l0 l2 l3 H G => wL_isText_5 Q nn l0 l2 l3 H G) l0 l3 (e3_w32 (e3_land (e3_lushr l0 l3) 255)) H G)))) ∧ (¬ ((l2 : Int) = 0) → (wL_isText_28 Q (fun l0 l2 l3 H G => wL_isText_5 Q nn l0 l2 l3 H G) l0 l3 (e3_w32 (e3_land (e3_lushr l0 l3) 255)) H G))))) := h
    refine e3_K [0] 6 [(1, l0), (3, 0), (0, l2), (0, l3), (3, 0)] [(0, l3)] (H) (G) (wZ L xs) (M := tbM154) rfl rfl trivial ?_
    refine e3_br (M := tbM154) rfl rfl rfl Iff.rfl (fun hc => ?_) (fun hc => ?_)
    · replace h := h.1 hc
      refine e3_K [0] 61 [(1, l0), (3, 0), (0, l2), (0, l3), (3, 0)] [(0, 1)] (H) (G) (wZ L xs) (M := tbM154) rfl rfl trivial ?_
      exact e3_retb (M := tbM154) rfl rfl rfl (Or.inr rfl) ⟨_, rfl, h⟩
    · replace h := h.2 hc
      refine e3_K [0, 0, 0, 2, 0, 0, 0, 0] 20 [(1, l0), (3, 0), (0, l2), (0, l3), (0, (e3_w32 (e3_land (e3_lushr l0 l3) 255)))] [(0, l2)] (H) (G) (wZ L xs) (M := tbM154) rfl rfl ⟨trivial, trivial⟩ ?_
      refine e3_br (M := tbM154) rfl rfl rfl Iff.rfl (fun hc => ?_) (fun hc => ?_)
      · replace h := h.1 hc
        refine e3_K [0] 25 [(1, l0), (3, 0), (0, l2), (0, l3), (0, (e3_w32 (e3_land (e3_lushr l0 l3) 255)))] [(0, (e3_w32 (e3_land (e3_lushr l0 l3) 255)))] (H) (G) (wZ L xs) (M := tbM154) rfl rfl trivial ?_
        refine e3_br (M := tbM154) rfl rfl rfl Iff.rfl (fun hc => ?_) (fun hc => ?_)
        · replace h := h.1 hc
          refine e3_K [0] 33 [(1, l0), (3, 0), (0, l2), (0, l3), (0, (e3_w32 (e3_land (e3_lushr l0 l3) 255)))] [(0, 0)] (H) (G) (wZ L xs) (M := tbM154) rfl rfl trivial ?_
          refine e3_fgt [true, false, false, true, true] ?_
          exact sL_isText_33 L xs Q (fun l0 l2 l3 H G => wL_isText_5 Q nn l0 l2 l3 H G) ih _ _ _ _ _ _ h
        · replace h := h.2 hc
          refine e3_fgt [true, false, false, true, true] ?_
          exact sL_isText_28 L xs Q (fun l0 l2 l3 H G => wL_isText_5 Q nn l0 l2 l3 H G) ih _ _ _ _ _ h
      · replace h := h.2 hc
        refine e3_fgt [true, false, false, true, true] ?_
        exact sL_isText_28 L xs Q (fun l0 l2 l3 H G => wL_isText_5 Q nn l0 l2 l3 H G) ih _ _ _ _ _ h
set_option maxRecDepth 100000 in
set_option maxHeartbeats 4000000 in
theorem sL_isText (L : Nat) (xs : Nat → Int32) (Q : Int → e3_H → e3_G → Prop) (l0 : Int) (H : e3_H) (G : e3_G) (h : wL_isText Q l0 H G) : e3_Ev (wB L xs) 0 0 154 0 [(1, l0), (3, 0), (3, 0), (3, 0), (3, 0)] [] H G (e3_q0 Q) := by
  unfold wL_isText at h
  refine e3_K [0, 0, 0, 0] 5 [(1, l0), (3, 0), (0, 0), (0, 56), (3, 0)] [] (H) (G) (wZ L xs) (M := tbM154) rfl rfl trivial ?_
  obtain ⟨nl, h⟩ := h
  exact sL_isText_5 L xs Q nl _ _ _ _ _ h
/-- LetterPost.letters(J)I -/
def wP_letters_20 (Q : Int → e3_H → e3_G → Prop) (s0 : Int) (H : e3_H) (G : e3_G) : Prop :=
  Q s0 H G
def wP_letters (Q : Int → e3_H → e3_G → Prop) (l1 : Int) (H : e3_H) (G : e3_G) : Prop :=
  (wL_isText (fun x3 H1 G2 => (((x3 : Int) = 0 → (wP_letters_20 Q (-1) H1 G2)) ∧ (¬ ((x3 : Int) = 0) → (wL_put (fun x6 H4 G5 => (wP_letters_20 Q x6 H4 G5)) 2 l1 H1 G2)))) l1 H G)
set_option maxRecDepth 100000 in
set_option maxHeartbeats 4000000 in
theorem sP_letters_20 (L : Nat) (xs : Nat → Int32) (Q : Int → e3_H → e3_G → Prop) (s0 : Int) (H : e3_H) (G : e3_G) (h : wP_letters_20 Q s0 H G) : e3_Ev (wB L xs) 4 129 153 20 [(3, 0), (3, 0), (3, 0)] [(0, s0)] H G (e3_q0 Q) := by
  unfold wP_letters_20 at h
  exact e3_reti (M := tbM153) rfl rfl rfl ⟨_, rfl, h⟩
set_option maxRecDepth 100000 in
set_option maxHeartbeats 4000000 in
theorem sP_letters (L : Nat) (xs : Nat → Int32) (Q : Int → e3_H → e3_G → Prop) (l1 : Int) (H : e3_H) (G : e3_G) (h : wP_letters Q l1 H G) : e3_Ev (wB L xs) 4 129 153 0 [(2, 2), (1, l1), (3, 0)] [] H G (e3_q0 Q) := by
  unfold wP_letters at h
  refine e3_K [0] 1 [(2, 2), (1, l1), (3, 0)] [(1, l1)] (H) (G) (wZ L xs) (M := tbM153) rfl rfl trivial ?_
  refine e3_call (o := 0) (k := 154) (M2 := tbM154) (f1 := 0) (w1 := 0) (as := [(1, l1)]) (rest := []) (M := tbM153) rfl rfl rfl trivial (Nat.le_of_ble_eq_true rfl) (Nat.le_of_ble_eq_true rfl) (Nat.le_of_ble_eq_true rfl) ?_
  refine e3_mono (sL_isText L xs _ _ _ _ h) (fun r H1 G2 h => ?_)
  obtain ⟨x3, rfl, h⟩ := h
  change e3_Ev _ _ _ _ 4 [(2, 2), (1, l1), (3, 0)] [(0, x3)] H1 G2 _
  refine e3_br (M := tbM153) rfl rfl rfl Iff.rfl (fun hc => ?_) (fun hc => ?_)
  · replace h := h.1 hc
    refine e3_K [0] 20 [(2, 2), (1, l1), (3, 0)] [(0, (-1))] (H1) (G2) (wZ L xs) (M := tbM153) rfl rfl trivial ?_
    refine e3_fgt [false, false, false] ?_
    exact sP_letters_20 L xs Q _ _ _ h
  · replace h := h.2 hc
    refine e3_K [0, 4, 0, 0] 13 [(2, 2), (1, l1), (3, 0)] [(1, l1), (0, 2), (2, 26)] (H1) (G2) (wZ L xs) (M := tbM153) rfl rfl ⟨trivial, trivial⟩ ?_
    refine e3_call (o := 0) (k := 148) (M2 := tbM148) (f1 := 3) (w1 := 106) (as := [(2, 26), (0, 2), (1, l1)]) (rest := []) (M := tbM153) rfl rfl rfl trivial (Nat.le_of_ble_eq_true rfl) (Nat.le_of_ble_eq_true rfl) (Nat.le_of_ble_eq_true rfl) ?_
    refine e3_mono (sL_put L xs _ _ _ _ _ h) (fun r H4 G5 h => ?_)
    obtain ⟨x6, rfl, h⟩ := h
    change e3_Ev _ _ _ _ 16 [(2, 2), (1, l1), (3, 0)] [(0, x6)] H4 G5 _
    refine e3_K [0] 20 [(2, 2), (1, l1), (3, 0)] [(0, x6)] (H4) (G5) (wZ L xs) (M := tbM153) rfl rfl trivial ?_
    refine e3_fgt [false, false, false] ?_
    exact sP_letters_20 L xs Q _ _ _ h
/-- LetterPost.nothing()I -/
def wP_nothing (Q : Int → e3_H → e3_G → Prop)  (H : e3_H) (G : e3_G) : Prop :=
  (wL_put (fun x3 H1 G2 => Q x3 H1 G2) 3 ((-1 : Int64).toInt) H G)
set_option maxRecDepth 100000 in
set_option maxHeartbeats 4000000 in
theorem sP_nothing (L : Nat) (xs : Nat → Int32) (Q : Int → e3_H → e3_G → Prop)  (H : e3_H) (G : e3_G) (h : wP_nothing Q  H G) : e3_Ev (wB L xs) 4 129 155 0 [(2, 2)] [] H G (e3_q0 Q) := by
  unfold wP_nothing at h
  refine e3_K [0, 4, 0, 2] 8 [(2, 2)] [(1, ((-1 : Int64).toInt)), (0, 3), (2, 26)] (H) (G) (wZ L xs) (M := tbM155) rfl rfl ⟨trivial, trivial, trivial⟩ ?_
  refine e3_call (o := 0) (k := 148) (M2 := tbM148) (f1 := 3) (w1 := 106) (as := [(2, 26), (0, 3), (1, ((-1 : Int64).toInt))]) (rest := []) (M := tbM155) rfl rfl rfl trivial (Nat.le_of_ble_eq_true rfl) (Nat.le_of_ble_eq_true rfl) (Nat.le_of_ble_eq_true rfl) ?_
  refine e3_mono (sL_put L xs _ _ _ _ _ h) (fun r H1 G2 h => ?_)
  obtain ⟨x3, rfl, h⟩ := h
  change e3_Ev _ _ _ _ 11 [(2, 2)] [(0, x3)] H1 G2 _
  exact e3_reti (M := tbM155) rfl rfl rfl ⟨_, rfl, h⟩
/-- LetterPost$Letters.offer(IIII)V -/
def wL_offer (Q : e3_H → e3_G → Prop) (l1 : Int) (l2 : Int) (l3 : Int) (l4 : Int) (H : e3_H) (G : e3_G) : Prop :=
  ∀ H1 : e3_H, H1 = e3_up H 33 0 l1 → ∀ H2 : e3_H, H2 = e3_up H1 33 1 l2 → ∀ H3 : e3_H, H3 = e3_up H2 33 2 l3 → ∀ H4 : e3_H, H4 = e3_up H3 33 3 l4 → Q H4 G
set_option maxRecDepth 100000 in
set_option maxHeartbeats 4000000 in
theorem sL_offer (L : Nat) (xs : Nat → Int32) (Q : e3_H → e3_G → Prop) (l1 : Int) (l2 : Int) (l3 : Int) (l4 : Int) (H : e3_H) (G : e3_G) (h : wL_offer Q l1 l2 l3 l4 H G) : e3_Ev (wB L xs) 0 0 157 0 [(2, 26), (0, l1), (0, l2), (0, l3), (0, l4)] [] H G (e3_qv Q) := by
  unfold wL_offer at h
  refine e3_K [0, 4, 0, 0, 2] 7 [(2, 26), (0, l1), (0, l2), (0, l3), (0, l4)] [] (e3_up H 33 0 l1) (G) (wZ L xs) (M := tbM157) rfl rfl ⟨trivial, ⟨by decide, by decide⟩, trivial⟩ ?_
  generalize hH1 : (e3_up H 33 0 l1) = H1
  replace h := h H1 hH1.symm
  refine e3_K [0, 4, 0, 0, 2] 14 [(2, 26), (0, l1), (0, l2), (0, l3), (0, l4)] [] (e3_up H1 33 1 l2) (G) (wZ L xs) (M := tbM157) rfl rfl ⟨trivial, ⟨by decide, by decide⟩, trivial⟩ ?_
  generalize hH2 : (e3_up H1 33 1 l2) = H2
  replace h := h H2 hH2.symm
  refine e3_K [0, 4, 0, 0, 2] 21 [(2, 26), (0, l1), (0, l2), (0, l3), (0, l4)] [] (e3_up H2 33 2 l3) (G) (wZ L xs) (M := tbM157) rfl rfl ⟨trivial, ⟨by decide, by decide⟩, trivial⟩ ?_
  generalize hH3 : (e3_up H2 33 2 l3) = H3
  replace h := h H3 hH3.symm
  refine e3_K [0, 4, 0, 0, 2] 29 [(2, 26), (0, l1), (0, l2), (0, l3), (0, l4)] [] (e3_up H3 33 3 l4) (G) (wZ L xs) (M := tbM157) rfl rfl ⟨trivial, ⟨by decide, by decide⟩, trivial⟩ ?_
  generalize hH4 : (e3_up H3 33 3 l4) = H4
  replace h := h H4 hH4.symm
  exact e3_retv (M := tbM157) rfl rfl rfl ⟨rfl, h⟩
/-- LetterPost$Letters.has(I)Z -/
def wL_has_17 (Q : Int → e3_H → e3_G → Prop) (s0 : Int) (H : e3_H) (G : e3_G) : Prop :=
  ((s0 : Int) = 0 ∨ s0 = 1) ∧ Q s0 H G
def wL_has_16 (Q : Int → e3_H → e3_G → Prop)  (H : e3_H) (G : e3_G) : Prop :=
  (wL_has_17 Q 0 H G)
def wL_has (Q : Int → e3_H → e3_G → Prop) (l1 : Int) (H : e3_H) (G : e3_G) : Prop :=
  (((l1 : Int) < 0 → (wL_has_16 Q H G)) ∧ (¬ ((l1 : Int) < 0) → (((l1 : Int) < (H 26 1) → (wL_has_17 Q 1 H G)) ∧ (¬ ((l1 : Int) < (H 26 1)) → (wL_has_16 Q H G)))))
set_option maxRecDepth 100000 in
set_option maxHeartbeats 4000000 in
theorem sL_has_17 (L : Nat) (xs : Nat → Int32) (Q : Int → e3_H → e3_G → Prop) (s0 : Int) (H : e3_H) (G : e3_G) (h : wL_has_17 Q s0 H G) : e3_Ev (wB L xs) 0 0 160 17 [(3, 0), (3, 0)] [(0, s0)] H G (e3_q0 Q) := by
  unfold wL_has_17 at h
  exact e3_retb (M := tbM160) rfl rfl rfl h.1 ⟨_, rfl, h.2⟩
set_option maxRecDepth 100000 in
set_option maxHeartbeats 4000000 in
theorem sL_has_16 (L : Nat) (xs : Nat → Int32) (Q : Int → e3_H → e3_G → Prop)  (H : e3_H) (G : e3_G) (h : wL_has_16 Q  H G) : e3_Ev (wB L xs) 0 0 160 16 [(3, 0), (3, 0)] [] H G (e3_q0 Q) := by
  unfold wL_has_16 at h
  refine e3_K [0] 17 [(3, 0), (3, 0)] [(0, 0)] (H) (G) (wZ L xs) (M := tbM160) rfl rfl trivial ?_
  exact sL_has_17 L xs Q _ _ _ h
set_option maxRecDepth 100000 in
set_option maxHeartbeats 4000000 in
theorem sL_has (L : Nat) (xs : Nat → Int32) (Q : Int → e3_H → e3_G → Prop) (l1 : Int) (H : e3_H) (G : e3_G) (h : wL_has Q l1 H G) : e3_Ev (wB L xs) 0 0 160 0 [(2, 26), (0, l1)] [] H G (e3_q0 Q) := by
  unfold wL_has at h
  refine e3_K [0] 1 [(2, 26), (0, l1)] [(0, l1)] (H) (G) (wZ L xs) (M := tbM160) rfl rfl trivial ?_
  refine e3_br (M := tbM160) rfl rfl rfl Iff.rfl (fun hc => ?_) (fun hc => ?_)
  · replace h := h.1 hc
    refine e3_fgt [false, false] ?_
    exact sL_has_16 L xs Q _ _ h
  · replace h := h.2 hc
    refine e3_K [0, 0, 2] 9 [(2, 26), (0, l1)] [(0, (H 26 1)), (0, l1)] (H) (G) (wZ L xs) (M := tbM160) rfl rfl ⟨trivial, trivial⟩ ?_
    refine e3_br (M := tbM160) rfl rfl rfl Iff.rfl (fun hc => ?_) (fun hc => ?_)
    · replace h := h.1 hc
      refine e3_K [0, 0] 17 [(2, 26), (0, l1)] [(0, 1)] (H) (G) (wZ L xs) (M := tbM160) rfl rfl trivial ?_
      refine e3_fgt [false, false] ?_
      exact sL_has_17 L xs Q _ _ _ h
    · replace h := h.2 hc
      refine e3_fgt [false, false] ?_
      exact sL_has_16 L xs Q _ _ h
