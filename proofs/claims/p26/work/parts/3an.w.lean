/-- LetterPost$Letters.isOf(II)Z -/
def wL_isOf_76 (Q : Int → e3_H → e3_G → Prop) (s0 : Int) (H : e3_H) (G : e3_G) : Prop :=
  ((s0 : Int) = 0 ∨ s0 = 1) ∧ Q s0 H G
def wL_isOf_71 (Q : Int → e3_H → e3_G → Prop)  (H : e3_H) (G : e3_G) : Prop :=
  (wL_isOf_76 Q 1 H G)
def wL_isOf_75 (Q : Int → e3_H → e3_G → Prop)  (H : e3_H) (G : e3_G) : Prop :=
  (wL_isOf_76 Q 0 H G)
def wL_isOf_30 (Q : Int → e3_H → e3_G → Prop) (s0 : Int) (H : e3_H) (G : e3_G) : Prop :=
  ((s0 : Int) = 0 ∨ s0 = 1) ∧ Q s0 H G
def wL_isOf (Q : Int → e3_H → e3_G → Prop) (l1 : Int) (l2 : Int) (H : e3_H) (G : e3_G) : Prop :=
  (wL_has (fun x3 H1 G2 => (((x3 : Int) = 0 → Q 0 H1 G2) ∧ (¬ ((x3 : Int) = 0) → (((l2 : Int) < 3 → ((0 : Int) ≤ l1 ∧ (l1 : Int) < 160) ∧ ((((H1 27 l1) : Int) = l2 → (wL_isOf_30 Q 1 H1 G2)) ∧ (¬ (((H1 27 l1) : Int) = l2) → (wL_isOf_30 Q 0 H1 G2)))) ∧ (¬ ((l2 : Int) < 3) → ((0 : Int) ≤ l1 ∧ (l1 : Int) < 160) ∧ ((((H1 27 l1) : Int) = 3 → (wL_isOf_71 Q H1 G2)) ∧ (¬ (((H1 27 l1) : Int) = 3) → ((0 : Int) ≤ l1 ∧ (l1 : Int) < 160) ∧ ((((H1 27 l1) : Int) = 4 → ((0 : Int) ≤ l1 ∧ (l1 : Int) < 160) ∧ (wK_isOrUnder (fun x10 H8 G9 => (((x10 : Int) = 0 → (wL_isOf_75 Q H8 G9)) ∧ (¬ ((x10 : Int) = 0) → (wL_isOf_71 Q H8 G9)))) (e3_w32 (H1 28 l1)) (e3_w32 (l2 - 3)) H1 G2)) ∧ (¬ (((H1 27 l1) : Int) = 4) → (wL_isOf_75 Q H1 G2)))))))))) l1 H G)
set_option maxRecDepth 100000 in
set_option maxHeartbeats 4000000 in
theorem sL_isOf_76 (L : Nat) (xs : Nat → Int32) (Q : Int → e3_H → e3_G → Prop) (s0 : Int) (H : e3_H) (G : e3_G) (h : wL_isOf_76 Q s0 H G) : e3_Ev (wB L xs) 1 24 159 76 [(3, 0), (3, 0), (3, 0)] [(0, s0)] H G (e3_q0 Q) := by
  unfold wL_isOf_76 at h
  exact e3_retb (M := tbM159) rfl rfl rfl h.1 ⟨_, rfl, h.2⟩
set_option maxRecDepth 100000 in
set_option maxHeartbeats 4000000 in
theorem sL_isOf_71 (L : Nat) (xs : Nat → Int32) (Q : Int → e3_H → e3_G → Prop)  (H : e3_H) (G : e3_G) (h : wL_isOf_71 Q  H G) : e3_Ev (wB L xs) 1 24 159 71 [(3, 0), (3, 0), (3, 0)] [] H G (e3_q0 Q) := by
  unfold wL_isOf_71 at h
  refine e3_K [0, 0] 76 [(3, 0), (3, 0), (3, 0)] [(0, 1)] (H) (G) (wZ L xs) (M := tbM159) rfl rfl trivial ?_
  exact sL_isOf_76 L xs Q _ _ _ h
set_option maxRecDepth 100000 in
set_option maxHeartbeats 4000000 in
theorem sL_isOf_75 (L : Nat) (xs : Nat → Int32) (Q : Int → e3_H → e3_G → Prop)  (H : e3_H) (G : e3_G) (h : wL_isOf_75 Q  H G) : e3_Ev (wB L xs) 1 24 159 75 [(3, 0), (3, 0), (3, 0)] [] H G (e3_q0 Q) := by
  unfold wL_isOf_75 at h
  refine e3_K [0] 76 [(3, 0), (3, 0), (3, 0)] [(0, 0)] (H) (G) (wZ L xs) (M := tbM159) rfl rfl trivial ?_
  exact sL_isOf_76 L xs Q _ _ _ h
set_option maxRecDepth 100000 in
set_option maxHeartbeats 4000000 in
theorem sL_isOf_30 (L : Nat) (xs : Nat → Int32) (Q : Int → e3_H → e3_G → Prop) (s0 : Int) (H : e3_H) (G : e3_G) (h : wL_isOf_30 Q s0 H G) : e3_Ev (wB L xs) 1 24 159 30 [(3, 0), (3, 0), (3, 0)] [(0, s0)] H G (e3_q0 Q) := by
  unfold wL_isOf_30 at h
  exact e3_retb (M := tbM159) rfl rfl rfl h.1 ⟨_, rfl, h.2⟩
set_option maxRecDepth 100000 in
set_option maxHeartbeats 4000000 in
theorem sL_isOf (L : Nat) (xs : Nat → Int32) (Q : Int → e3_H → e3_G → Prop) (l1 : Int) (l2 : Int) (H : e3_H) (G : e3_G) (h : wL_isOf Q l1 l2 H G) : e3_Ev (wB L xs) 1 24 159 0 [(2, 26), (0, l1), (0, l2)] [] H G (e3_q0 Q) := by
  unfold wL_isOf at h
  refine e3_K [0, 0] 2 [(2, 26), (0, l1), (0, l2)] [(0, l1), (2, 26)] (H) (G) (wZ L xs) (M := tbM159) rfl rfl trivial ?_
  refine e3_call (o := 0) (k := 160) (M2 := tbM160) (f1 := 0) (w1 := 0) (as := [(2, 26), (0, l1)]) (rest := []) (M := tbM159) rfl rfl rfl trivial (Nat.le_of_ble_eq_true rfl) (Nat.le_of_ble_eq_true rfl) (Nat.le_of_ble_eq_true rfl) ?_
  refine e3_mono (sL_has L xs _ _ _ _ h) (fun r H1 G2 h => ?_)
  obtain ⟨x3, rfl, h⟩ := h
  change e3_Ev _ _ _ _ 5 [(2, 26), (0, l1), (0, l2)] [(0, x3)] H1 G2 _
  refine e3_br (M := tbM159) rfl rfl rfl Iff.rfl (fun hc => ?_) (fun hc => ?_)
  · replace h := h.1 hc
    refine e3_K [0] 9 [(2, 26), (0, l1), (0, l2)] [(0, 0)] (H1) (G2) (wZ L xs) (M := tbM159) rfl rfl trivial ?_
    exact e3_retb (M := tbM159) rfl rfl rfl (Or.inl rfl) ⟨_, rfl, h⟩
  · replace h := h.2 hc
    refine e3_K [0, 0] 12 [(2, 26), (0, l1), (0, l2)] [(0, 3), (0, l2)] (H1) (G2) (wZ L xs) (M := tbM159) rfl rfl trivial ?_
    refine e3_br (M := tbM159) rfl rfl rfl Iff.rfl (fun hc => ?_) (fun hc => ?_)
    · replace h := h.1 hc
      obtain ⟨o4, h⟩ := h
      refine e3_K [0, 4, 0, 2, 0] 22 [(2, 26), (0, l1), (0, l2)] [(0, l2), (0, (H1 27 l1))] (H1) (G2) (wZ L xs) (M := tbM159) rfl rfl ⟨trivial, o4, trivial⟩ ?_
      refine e3_br (M := tbM159) rfl rfl rfl Iff.rfl (fun hc => ?_) (fun hc => ?_)
      · replace h := h.1 hc
        refine e3_K [0, 0] 30 [(2, 26), (0, l1), (0, l2)] [(0, 1)] (H1) (G2) (wZ L xs) (M := tbM159) rfl rfl trivial ?_
        refine e3_fgt [false, false, false] ?_
        exact sL_isOf_30 L xs Q _ _ _ h
      · replace h := h.2 hc
        refine e3_K [0] 30 [(2, 26), (0, l1), (0, l2)] [(0, 0)] (H1) (G2) (wZ L xs) (M := tbM159) rfl rfl trivial ?_
        refine e3_fgt [false, false, false] ?_
        exact sL_isOf_30 L xs Q _ _ _ h
    · replace h := h.2 hc
      obtain ⟨o5, h⟩ := h
      refine e3_K [0, 4, 0, 2, 0] 38 [(2, 26), (0, l1), (0, l2)] [(0, 3), (0, (H1 27 l1))] (H1) (G2) (wZ L xs) (M := tbM159) rfl rfl ⟨trivial, o5, trivial⟩ ?_
      refine e3_br (M := tbM159) rfl rfl rfl Iff.rfl (fun hc => ?_) (fun hc => ?_)
      · replace h := h.1 hc
        refine e3_fgt [false, false, false] ?_
        exact sL_isOf_71 L xs Q _ _ h
      · replace h := h.2 hc
        obtain ⟨o6, h⟩ := h
        refine e3_K [0, 4, 0, 2, 0] 48 [(2, 26), (0, l1), (0, l2)] [(0, 4), (0, (H1 27 l1))] (H1) (G2) (wZ L xs) (M := tbM159) rfl rfl ⟨trivial, o6, trivial⟩ ?_
        refine e3_br (M := tbM159) rfl rfl rfl Iff.rfl (fun hc => ?_) (fun hc => ?_)
        · replace h := h.1 hc
          obtain ⟨o7, h⟩ := h
          refine e3_K [0, 4, 0, 4, 0, 2, 0, 0, 0, 0] 65 [(2, 26), (0, l1), (0, l2)] [(0, (e3_w32 (l2 - 3))), (0, (e3_w32 (H1 28 l1))), (2, 8)] (H1) (G2) (wZ L xs) (M := tbM159) rfl rfl ⟨trivial, trivial, o7, trivial⟩ ?_
          refine e3_call (o := 0) (k := 55) (M2 := tbM55) (f1 := 0) (w1 := 0) (as := [(2, 8), (0, (e3_w32 (H1 28 l1))), (0, (e3_w32 (l2 - 3)))]) (rest := []) (M := tbM159) rfl rfl rfl trivial (Nat.le_of_ble_eq_true rfl) (Nat.le_of_ble_eq_true rfl) (Nat.le_of_ble_eq_true rfl) ?_
          refine e3_mono (sK_isOrUnder L xs _ _ _ _ _ h) (fun r H8 G9 h => ?_)
          obtain ⟨x10, rfl, h⟩ := h
          change e3_Ev _ _ _ _ 68 [(2, 26), (0, l1), (0, l2)] [(0, x10)] H8 G9 _
          refine e3_br (M := tbM159) rfl rfl rfl Iff.rfl (fun hc => ?_) (fun hc => ?_)
          · replace h := h.1 hc
            refine e3_fgt [false, false, false] ?_
            exact sL_isOf_75 L xs Q _ _ h
          · replace h := h.2 hc
            refine e3_fgt [false, false, false] ?_
            exact sL_isOf_71 L xs Q _ _ h
        · replace h := h.2 hc
          refine e3_fgt [false, false, false] ?_
          exact sL_isOf_75 L xs Q _ _ h
/-- LetterPost$Letters.offerSuits(I)Z -/
def wL_offerSuits_2 (Q : Int → e3_H → e3_G → Prop) : Nat → Int → Int → e3_H → e3_G → Prop
  | 0, _, _, _, _ => False
  | nn + 1, l1, l2, H, G => (wK_partCount (fun x3 H1 G2 => (((l2 : Int) < x3 → ((0 : Int) ≤ l2 ∧ (l2 : Int) < 4) ∧ (wK_partSort (fun x7 H5 G6 => (wL_isOf (fun x10 H8 G9 => (((x10 : Int) = 0 → Q 0 H8 G9) ∧ (¬ ((x10 : Int) = 0) → (wL_offerSuits_2 Q nn l1 (e3_w32 (l2 + 1)) H8 G9)))) (H1 33 l2) x7 H5 G6)) l1 l2 H1 G2)) ∧ (¬ ((l2 : Int) < x3) → Q 1 H1 G2))) l1 H G)
def wL_offerSuits (Q : Int → e3_H → e3_G → Prop) (l1 : Int) (H : e3_H) (G : e3_G) : Prop :=
  (∃ n, wL_offerSuits_2 Q n l1 0 H G)
set_option maxRecDepth 100000 in
set_option maxHeartbeats 4000000 in
theorem sL_offerSuits_2 (L : Nat) (xs : Nat → Int32) (Q : Int → e3_H → e3_G → Prop) : ∀ (nl : Nat) (l1 : Int) (l2 : Int) (H : e3_H) (G : e3_G), wL_offerSuits_2 Q nl l1 l2 H G → e3_Ev (wB L xs) 2 46 158 2 [(2, 26), (0, l1), (0, l2)] [] H G (e3_q0 Q) := by
  intro nl
  induction nl with
  | zero => intro l1 l2 H G h; exact h.elim
  | succ nn ih =>
    intro l1 l2 H G h
    have h : (wK_partCount (fun x3 H1 G2 => (((l2 : Int) < x3 → ((0 : Int) ≤ l2 ∧ (l2 : Int) < 4) ∧ (wK_partSort (fun x7 H5 G6 => (wL_isOf (fun x10 H8 G9 => (((x10 : Int) = 0 → Q 0 H8 G9) ∧ (¬ ((x10 : Int) = 0) → (wL_offerSuits_2 Q nn l1 (e3_w32 (l2 + 1)) H8 G9)))) (H1 33 l2) x7 H5 G6)) l1 l2 H1 G2)) ∧ (¬ ((l2 : Int) < x3) → Q 1 H1 G2))) l1 H G) := h
    refine e3_K [0, 0, 4, 0] 8 [(2, 26), (0, l1), (0, l2)] [(0, l1), (2, 8), (0, l2)] (H) (G) (wZ L xs) (M := tbM158) rfl rfl ⟨trivial, trivial⟩ ?_
    refine e3_call (o := 0) (k := 31) (M2 := tbM31) (f1 := 0) (w1 := 0) (as := [(2, 8), (0, l1)]) (rest := [(0, l2)]) (M := tbM158) rfl rfl rfl trivial (Nat.le_of_ble_eq_true rfl) (Nat.le_of_ble_eq_true rfl) (Nat.le_of_ble_eq_true rfl) ?_
    refine e3_mono (sK_partCount L xs _ _ _ _ h) (fun r H1 G2 h => ?_)
    obtain ⟨x3, rfl, h⟩ := h
    change e3_Ev _ _ _ _ 11 [(2, 26), (0, l1), (0, l2)] [(0, x3), (0, l2)] H1 G2 _
    refine e3_br (M := tbM158) rfl rfl rfl Iff.rfl (fun hc => ?_) (fun hc => ?_)
    · replace h := h.1 hc
      obtain ⟨o4, h⟩ := h
      refine e3_K [0, 0, 4, 0, 2, 0, 4, 0, 0] 27 [(2, 26), (0, l1), (0, l2)] [(0, l2), (0, l1), (2, 8), (0, (H1 33 l2)), (2, 26)] (H1) (G2) (wZ L xs) (M := tbM158) rfl rfl ⟨trivial, o4, trivial, trivial⟩ ?_
      refine e3_call (o := 0) (k := 68) (M2 := tbM68) (f1 := 1) (w1 := 21) (as := [(2, 8), (0, l1), (0, l2)]) (rest := [(0, (H1 33 l2)), (2, 26)]) (M := tbM158) rfl rfl rfl trivial (Nat.le_of_ble_eq_true rfl) (Nat.le_of_ble_eq_true rfl) (Nat.le_of_ble_eq_true rfl) ?_
      refine e3_mono (sK_partSort L xs _ _ _ _ _ h) (fun r H5 G6 h => ?_)
      obtain ⟨x7, rfl, h⟩ := h
      change e3_Ev _ _ _ _ 30 [(2, 26), (0, l1), (0, l2)] [(0, x7), (0, (H1 33 l2)), (2, 26)] H5 G6 _
      refine e3_call (o := 0) (k := 159) (M2 := tbM159) (f1 := 1) (w1 := 24) (as := [(2, 26), (0, (H1 33 l2)), (0, x7)]) (rest := []) (M := tbM158) rfl rfl rfl trivial (Nat.le_of_ble_eq_true rfl) (Nat.le_of_ble_eq_true rfl) (Nat.le_of_ble_eq_true rfl) ?_
      refine e3_mono (sL_isOf L xs _ _ _ _ _ h) (fun r H8 G9 h => ?_)
      obtain ⟨x10, rfl, h⟩ := h
      change e3_Ev _ _ _ _ 33 [(2, 26), (0, l1), (0, l2)] [(0, x10)] H8 G9 _
      refine e3_br (M := tbM158) rfl rfl rfl Iff.rfl (fun hc => ?_) (fun hc => ?_)
      · replace h := h.1 hc
        refine e3_K [0] 37 [(2, 26), (0, l1), (0, l2)] [(0, 0)] (H8) (G9) (wZ L xs) (M := tbM158) rfl rfl trivial ?_
        exact e3_retb (M := tbM158) rfl rfl rfl (Or.inl rfl) ⟨_, rfl, h⟩
      · replace h := h.2 hc
        refine e3_K [0, 0] 2 [(2, 26), (0, l1), (0, (e3_w32 (l2 + 1)))] [] (H8) (G9) (wZ L xs) (M := tbM158) rfl rfl trivial ?_
        exact ih _ _ _ _ h
    · replace h := h.2 hc
      refine e3_K [0] 45 [(2, 26), (0, l1), (0, l2)] [(0, 1)] (H1) (G2) (wZ L xs) (M := tbM158) rfl rfl trivial ?_
      exact e3_retb (M := tbM158) rfl rfl rfl (Or.inr rfl) ⟨_, rfl, h⟩
set_option maxRecDepth 100000 in
set_option maxHeartbeats 4000000 in
theorem sL_offerSuits (L : Nat) (xs : Nat → Int32) (Q : Int → e3_H → e3_G → Prop) (l1 : Int) (H : e3_H) (G : e3_G) (h : wL_offerSuits Q l1 H G) : e3_Ev (wB L xs) 2 46 158 0 [(2, 26), (0, l1), (3, 0)] [] H G (e3_q0 Q) := by
  unfold wL_offerSuits at h
  refine e3_K [0, 0] 2 [(2, 26), (0, l1), (0, 0)] [] (H) (G) (wZ L xs) (M := tbM158) rfl rfl trivial ?_
  obtain ⟨nl, h⟩ := h
  exact sL_offerSuits_2 L xs Q nl _ _ _ _ h
/-- LetterPost$Letters.putLeaf(I)I -/
def wL_putLeaf_51 (Q : Int → e3_H → e3_G → Prop) (k14 : Int → Int → Int → Int → e3_H → e3_G → Prop) (l1 : Int) (l3 : Int) (l4 : Int) (s0 : Int) (s1 : Int) (H : e3_H) (G : e3_G) : Prop :=
  (k14 l1 (e3_w32 (s1 + s0)) l3 (e3_w32 (l4 + 1)) H G)
def wL_putLeaf_14 (Q : Int → e3_H → e3_G → Prop) : Nat → Int → Int → Int → Int → e3_H → e3_G → Prop
  | 0, _, _, _, _, _, _ => False
  | nn + 1, l1, l2, l3, l4, H, G => (((l4 : Int) < l3 → ((0 : Int) ≤ l4 ∧ (l4 : Int) < 4) ∧ (wL_has (fun x4 H2 G3 => (((x4 : Int) = 0 → (wL_putLeaf_51 Q (fun l1 l2 l3 l4 H G => wL_putLeaf_14 Q nn l1 l2 l3 l4 H G) l1 l3 l4 0 l2 H2 G3)) ∧ (¬ ((x4 : Int) = 0) → ((0 : Int) ≤ l4 ∧ (l4 : Int) < 4) ∧ ((0 : Int) ≤ (H2 33 l4) ∧ ((H2 33 l4) : Int) < 160) ∧ (wL_putLeaf_51 Q (fun l1 l2 l3 l4 H G => wL_putLeaf_14 Q nn l1 l2 l3 l4 H G) l1 l3 l4 (H2 29 (H2 33 l4)) l2 H2 G3)))) (H 33 l4) H G)) ∧ (¬ ((l4 : Int) < l3) → (wL_putSized (fun x9 H7 G8 => Q x9 H7 G8) 4 l1 l2 l3 H G)))
def wL_putLeaf (Q : Int → e3_H → e3_G → Prop) (l1 : Int) (H : e3_H) (G : e3_G) : Prop :=
  (wK_partCount (fun x3 H1 G2 => (∃ n, wL_putLeaf_14 Q n l1 1 x3 0 H1 G2)) l1 H G)
set_option maxRecDepth 100000 in
set_option maxHeartbeats 4000000 in
theorem sL_putLeaf_51 (L : Nat) (xs : Nat → Int32) (Q : Int → e3_H → e3_G → Prop) (k14 : Int → Int → Int → Int → e3_H → e3_G → Prop) (hk14 : ∀ (l1 : Int) (l2 : Int) (l3 : Int) (l4 : Int) (H : e3_H) (G : e3_G), k14 l1 l2 l3 l4 H G → e3_Ev (wB L xs) 3 106 161 14 [(2, 26), (0, l1), (0, l2), (0, l3), (0, l4)] [] H G (e3_q0 Q)) (l1 : Int) (l3 : Int) (l4 : Int) (s0 : Int) (s1 : Int) (H : e3_H) (G : e3_G) (h : wL_putLeaf_51 Q k14 l1 l3 l4 s0 s1 H G) : e3_Ev (wB L xs) 3 106 161 51 [(2, 26), (0, l1), (3, 0), (0, l3), (0, l4)] [(0, s0), (0, s1)] H G (e3_q0 Q) := by
  unfold wL_putLeaf_51 at h
  refine e3_K [0, 0, 0, 0] 14 [(2, 26), (0, l1), (0, (e3_w32 (s1 + s0))), (0, l3), (0, (e3_w32 (l4 + 1)))] [] (H) (G) (wZ L xs) (M := tbM161) rfl rfl trivial ?_
  exact hk14 _ _ _ _ _ _ h
set_option maxRecDepth 100000 in
set_option maxHeartbeats 4000000 in
theorem sL_putLeaf_14 (L : Nat) (xs : Nat → Int32) (Q : Int → e3_H → e3_G → Prop) : ∀ (nl : Nat) (l1 : Int) (l2 : Int) (l3 : Int) (l4 : Int) (H : e3_H) (G : e3_G), wL_putLeaf_14 Q nl l1 l2 l3 l4 H G → e3_Ev (wB L xs) 3 106 161 14 [(2, 26), (0, l1), (0, l2), (0, l3), (0, l4)] [] H G (e3_q0 Q) := by
  intro nl
  induction nl with
  | zero => intro l1 l2 l3 l4 H G h; exact h.elim
  | succ nn ih =>
    intro l1 l2 l3 l4 H G h
    have h : (((l4 : Int) < l3 → ((0 : Int) ≤ l4 ∧ (l4 : Int) < 4) ∧ (wL_has (fun x4 H2 G3 => (((x4 : Int) = 0 → (wL_putLeaf_51 Q (fun l1 l2 l3 l4 H G => wL_putLeaf_14 Q nn l1 l2 l3 l4 H G) l1 l3 l4 0 l2 H2 G3)) ∧ (¬ ((x4 : Int) = 0) → ((0 : Int) ≤ l4 ∧ (l4 : Int) < 4) ∧ ((0 : Int) ≤ (H2 33 l4) ∧ ((H2 33 l4) : Int) < 160) ∧ (wL_putLeaf_51 Q (fun l1 l2 l3 l4 H G => wL_putLeaf_14 Q nn l1 l2 l3 l4 H G) l1 l3 l4 (H2 29 (H2 33 l4)) l2 H2 G3)))) (H 33 l4) H G)) ∧ (¬ ((l4 : Int) < l3) → (wL_putSized (fun x9 H7 G8 => Q x9 H7 G8) 4 l1 l2 l3 H G))) := h
    refine e3_K [0, 0] 17 [(2, 26), (0, l1), (0, l2), (0, l3), (0, l4)] [(0, l3), (0, l4)] (H) (G) (wZ L xs) (M := tbM161) rfl rfl trivial ?_
    refine e3_br (M := tbM161) rfl rfl rfl Iff.rfl (fun hc => ?_) (fun hc => ?_)
    · replace h := h.1 hc
      obtain ⟨o1, h⟩ := h
      refine e3_K [0, 0, 0, 4, 0, 2] 29 [(2, 26), (0, l1), (0, l2), (0, l3), (0, l4)] [(0, (H 33 l4)), (2, 26), (0, l2)] (H) (G) (wZ L xs) (M := tbM161) rfl rfl ⟨trivial, o1, trivial⟩ ?_
      refine e3_call (o := 0) (k := 160) (M2 := tbM160) (f1 := 0) (w1 := 0) (as := [(2, 26), (0, (H 33 l4))]) (rest := [(0, l2)]) (M := tbM161) rfl rfl rfl trivial (Nat.le_of_ble_eq_true rfl) (Nat.le_of_ble_eq_true rfl) (Nat.le_of_ble_eq_true rfl) ?_
      refine e3_mono (sL_has L xs _ _ _ _ h) (fun r H2 G3 h => ?_)
      obtain ⟨x4, rfl, h⟩ := h
      change e3_Ev _ _ _ _ 32 [(2, 26), (0, l1), (0, l2), (0, l3), (0, l4)] [(0, x4), (0, l2)] H2 G3 _
      refine e3_br (M := tbM161) rfl rfl rfl Iff.rfl (fun hc => ?_) (fun hc => ?_)
      · replace h := h.1 hc
        refine e3_K [0] 51 [(2, 26), (0, l1), (0, l2), (0, l3), (0, l4)] [(0, 0), (0, l2)] (H2) (G3) (wZ L xs) (M := tbM161) rfl rfl trivial ?_
        refine e3_fgt [true, true, false, true, true] ?_
        exact sL_putLeaf_51 L xs Q (fun l1 l2 l3 l4 H G => wL_putLeaf_14 Q nn l1 l2 l3 l4 H G) ih _ _ _ _ _ _ _ h
      · replace h := h.2 hc
        obtain ⟨o5, o6, h⟩ := h
        refine e3_K [0, 4, 0, 4, 0, 2, 2, 0] 51 [(2, 26), (0, l1), (0, l2), (0, l3), (0, l4)] [(0, (H2 29 (H2 33 l4))), (0, l2)] (H2) (G3) (wZ L xs) (M := tbM161) rfl rfl ⟨trivial, trivial, o5, o6, trivial⟩ ?_
        refine e3_fgt [true, true, false, true, true] ?_
        exact sL_putLeaf_51 L xs Q (fun l1 l2 l3 l4 H G => wL_putLeaf_14 Q nn l1 l2 l3 l4 H G) ih _ _ _ _ _ _ _ h
    · replace h := h.2 hc
      refine e3_K [0, 0, 0, 0, 0, 0] 65 [(2, 26), (0, l1), (0, l2), (0, l3), (0, l4)] [(0, l3), (0, l2), (1, l1), (0, 4), (2, 26)] (H) (G) (wZ L xs) (M := tbM161) rfl rfl trivial ?_
      refine e3_call (o := 0) (k := 149) (M2 := tbM149) (f1 := 2) (w1 := 80) (as := [(2, 26), (0, 4), (1, l1), (0, l2), (0, l3)]) (rest := []) (M := tbM161) rfl rfl rfl trivial (Nat.le_of_ble_eq_true rfl) (Nat.le_of_ble_eq_true rfl) (Nat.le_of_ble_eq_true rfl) ?_
      refine e3_mono (sL_putSized L xs _ _ _ _ _ _ _ h) (fun r H7 G8 h => ?_)
      obtain ⟨x9, rfl, h⟩ := h
      change e3_Ev _ _ _ _ 68 [(2, 26), (0, l1), (0, l2), (0, l3), (0, l4)] [(0, x9)] H7 G8 _
      exact e3_reti (M := tbM161) rfl rfl rfl ⟨_, rfl, h⟩
set_option maxRecDepth 100000 in
set_option maxHeartbeats 4000000 in
theorem sL_putLeaf (L : Nat) (xs : Nat → Int32) (Q : Int → e3_H → e3_G → Prop) (l1 : Int) (H : e3_H) (G : e3_G) (h : wL_putLeaf Q l1 H G) : e3_Ev (wB L xs) 3 106 161 0 [(2, 26), (0, l1), (3, 0), (3, 0), (3, 0)] [] H G (e3_q0 Q) := by
  unfold wL_putLeaf at h
  refine e3_K [0, 0, 0, 4, 0] 7 [(2, 26), (0, l1), (0, 1), (3, 0), (3, 0)] [(0, l1), (2, 8)] (H) (G) (wZ L xs) (M := tbM161) rfl rfl ⟨trivial, trivial⟩ ?_
  refine e3_call (o := 0) (k := 31) (M2 := tbM31) (f1 := 0) (w1 := 0) (as := [(2, 8), (0, l1)]) (rest := []) (M := tbM161) rfl rfl rfl trivial (Nat.le_of_ble_eq_true rfl) (Nat.le_of_ble_eq_true rfl) (Nat.le_of_ble_eq_true rfl) ?_
  refine e3_mono (sK_partCount L xs _ _ _ _ h) (fun r H1 G2 h => ?_)
  obtain ⟨x3, rfl, h⟩ := h
  change e3_Ev _ _ _ _ 10 [(2, 26), (0, l1), (0, 1), (3, 0), (3, 0)] [(0, x3)] H1 G2 _
  refine e3_K [0, 0, 0] 14 [(2, 26), (0, l1), (0, 1), (0, x3), (0, 0)] [] (H1) (G2) (wZ L xs) (M := tbM161) rfl rfl trivial ?_
  obtain ⟨nl, h⟩ := h
  exact sL_putLeaf_14 L xs Q nl _ _ _ _ _ _ h
/-- LetterPost.make(IIIII)I -/
def wP_make (Q : Int → e3_H → e3_G → Prop) (l1 : Int) (l2 : Int) (l3 : Int) (l4 : Int) (l5 : Int) (H : e3_H) (G : e3_G) : Prop :=
  (wK_isLeaf (fun x3 H1 G2 => (((x3 : Int) = 0 → Q (-1) H1 G2) ∧ (¬ ((x3 : Int) = 0) → (wL_offer (fun H4 G5 => (wL_offerSuits (fun x9 H7 G8 => (((x9 : Int) = 0 → Q (-1) H7 G8) ∧ (¬ ((x9 : Int) = 0) → (wL_putLeaf (fun x12 H10 G11 => Q x12 H10 G11) l1 H7 G8)))) l1 H4 G5)) l2 l3 l4 l5 H1 G2)))) l1 H G)
set_option maxRecDepth 100000 in
set_option maxHeartbeats 4000000 in
theorem sP_make (L : Nat) (xs : Nat → Int32) (Q : Int → e3_H → e3_G → Prop) (l1 : Int) (l2 : Int) (l3 : Int) (l4 : Int) (l5 : Int) (H : e3_H) (G : e3_G) (h : wP_make Q l1 l2 l3 l4 l5 H G) : e3_Ev (wB L xs) 4 130 156 0 [(2, 2), (0, l1), (0, l2), (0, l3), (0, l4), (0, l5)] [] H G (e3_q0 Q) := by
  unfold wP_make at h
  refine e3_K [0, 4, 0] 5 [(2, 2), (0, l1), (0, l2), (0, l3), (0, l4), (0, l5)] [(0, l1), (2, 8)] (H) (G) (wZ L xs) (M := tbM156) rfl rfl ⟨trivial, trivial⟩ ?_
  refine e3_call (o := 0) (k := 117) (M2 := tbM117) (f1 := 0) (w1 := 0) (as := [(2, 8), (0, l1)]) (rest := []) (M := tbM156) rfl rfl rfl trivial (Nat.le_of_ble_eq_true rfl) (Nat.le_of_ble_eq_true rfl) (Nat.le_of_ble_eq_true rfl) ?_
  refine e3_mono (sK_isLeaf L xs _ _ _ _ h) (fun r H1 G2 h => ?_)
  obtain ⟨x3, rfl, h⟩ := h
  change e3_Ev _ _ _ _ 8 [(2, 2), (0, l1), (0, l2), (0, l3), (0, l4), (0, l5)] [(0, x3)] H1 G2 _
  refine e3_br (M := tbM156) rfl rfl rfl Iff.rfl (fun hc => ?_) (fun hc => ?_)
  · replace h := h.1 hc
    refine e3_K [0] 12 [(2, 2), (0, l1), (0, l2), (0, l3), (0, l4), (0, l5)] [(0, (-1))] (H1) (G2) (wZ L xs) (M := tbM156) rfl rfl trivial ?_
    exact e3_reti (M := tbM156) rfl rfl rfl ⟨_, rfl, h⟩
  · replace h := h.2 hc
    refine e3_K [0, 4, 0, 0, 0, 0] 23 [(2, 2), (0, l1), (0, l2), (0, l3), (0, l4), (0, l5)] [(0, l5), (0, l4), (0, l3), (0, l2), (2, 26)] (H1) (G2) (wZ L xs) (M := tbM156) rfl rfl ⟨trivial, trivial⟩ ?_
    refine e3_call (o := 0) (k := 157) (M2 := tbM157) (f1 := 0) (w1 := 0) (as := [(2, 26), (0, l2), (0, l3), (0, l4), (0, l5)]) (rest := []) (M := tbM156) rfl rfl rfl trivial (Nat.le_of_ble_eq_true rfl) (Nat.le_of_ble_eq_true rfl) (Nat.le_of_ble_eq_true rfl) ?_
    refine e3_mono (sL_offer L xs _ _ _ _ _ _ _ h) (fun r H4 G5 h => ?_)
    obtain ⟨rfl, h⟩ := h
    change e3_Ev _ _ _ _ 26 [(2, 2), (0, l1), (0, l2), (0, l3), (0, l4), (0, l5)] [] H4 G5 _
    refine e3_K [0, 4, 0] 31 [(2, 2), (0, l1), (0, l2), (0, l3), (0, l4), (0, l5)] [(0, l1), (2, 26)] (H4) (G5) (wZ L xs) (M := tbM156) rfl rfl ⟨trivial, trivial⟩ ?_
    refine e3_call (o := 0) (k := 158) (M2 := tbM158) (f1 := 2) (w1 := 46) (as := [(2, 26), (0, l1)]) (rest := []) (M := tbM156) rfl rfl rfl trivial (Nat.le_of_ble_eq_true rfl) (Nat.le_of_ble_eq_true rfl) (Nat.le_of_ble_eq_true rfl) ?_
    refine e3_mono (sL_offerSuits L xs _ _ _ _ h) (fun r H7 G8 h => ?_)
    obtain ⟨x9, rfl, h⟩ := h
    change e3_Ev _ _ _ _ 34 [(2, 2), (0, l1), (0, l2), (0, l3), (0, l4), (0, l5)] [(0, x9)] H7 G8 _
    refine e3_br (M := tbM156) rfl rfl rfl Iff.rfl (fun hc => ?_) (fun hc => ?_)
    · replace h := h.1 hc
      refine e3_K [0] 38 [(2, 2), (0, l1), (0, l2), (0, l3), (0, l4), (0, l5)] [(0, (-1))] (H7) (G8) (wZ L xs) (M := tbM156) rfl rfl trivial ?_
      exact e3_reti (M := tbM156) rfl rfl rfl ⟨_, rfl, h⟩
    · replace h := h.2 hc
      refine e3_K [0, 4, 0] 44 [(2, 2), (0, l1), (0, l2), (0, l3), (0, l4), (0, l5)] [(0, l1), (2, 26)] (H7) (G8) (wZ L xs) (M := tbM156) rfl rfl ⟨trivial, trivial⟩ ?_
      refine e3_call (o := 0) (k := 161) (M2 := tbM161) (f1 := 3) (w1 := 106) (as := [(2, 26), (0, l1)]) (rest := []) (M := tbM156) rfl rfl rfl trivial (Nat.le_of_ble_eq_true rfl) (Nat.le_of_ble_eq_true rfl) (Nat.le_of_ble_eq_true rfl) ?_
      refine e3_mono (sL_putLeaf L xs _ _ _ _ h) (fun r H10 G11 h => ?_)
      obtain ⟨x12, rfl, h⟩ := h
      change e3_Ev _ _ _ _ 47 [(2, 2), (0, l1), (0, l2), (0, l3), (0, l4), (0, l5)] [(0, x12)] H10 G11 _
      exact e3_reti (M := tbM156) rfl rfl rfl ⟨_, rfl, h⟩
/-- java/lang/Integer.numberOfLeadingZeros(I)I -/
def wJ_numberOfLeadingZeros1_73 (Q : Int → e3_H → e3_G → Prop) (l0 : Int) (l1 : Int) (H : e3_H) (G : e3_G) : Prop :=
  Q (e3_w32 (l1 - (e3_ushr l0 1))) H G
def wJ_numberOfLeadingZeros1_61 (Q : Int → e3_H → e3_G → Prop) (l0 : Int) (l1 : Int) (H : e3_H) (G : e3_G) : Prop :=
  (((l0 : Int) < 4 → (wJ_numberOfLeadingZeros1_73 Q l0 l1 H G)) ∧ (¬ ((l0 : Int) < 4) → (wJ_numberOfLeadingZeros1_73 Q (e3_ushr l0 2) (e3_w32 (l1 + (-2))) H G)))
def wJ_numberOfLeadingZeros1_48 (Q : Int → e3_H → e3_G → Prop) (l0 : Int) (l1 : Int) (H : e3_H) (G : e3_G) : Prop :=
  (((l0 : Int) < 16 → (wJ_numberOfLeadingZeros1_61 Q l0 l1 H G)) ∧ (¬ ((l0 : Int) < 16) → (wJ_numberOfLeadingZeros1_61 Q (e3_ushr l0 4) (e3_w32 (l1 + (-4))) H G)))
def wJ_numberOfLeadingZeros1_33 (Q : Int → e3_H → e3_G → Prop) (l0 : Int) (l1 : Int) (H : e3_H) (G : e3_G) : Prop :=
  (((l0 : Int) < 256 → (wJ_numberOfLeadingZeros1_48 Q l0 l1 H G)) ∧ (¬ ((l0 : Int) < 256) → (wJ_numberOfLeadingZeros1_48 Q (e3_ushr l0 8) (e3_w32 (l1 + (-8))) H G)))
def wJ_numberOfLeadingZeros1_14 (Q : Int → e3_H → e3_G → Prop) (s0 : Int) (H : e3_H) (G : e3_G) : Prop :=
  Q s0 H G
def wJ_numberOfLeadingZeros1 (Q : Int → e3_H → e3_G → Prop) (l0 : Int) (H : e3_H) (G : e3_G) : Prop :=
  (((0 : Int) < l0 → (((l0 : Int) < 65536 → (wJ_numberOfLeadingZeros1_33 Q l0 31 H G)) ∧ (¬ ((l0 : Int) < 65536) → (wJ_numberOfLeadingZeros1_33 Q (e3_ushr l0 16) (e3_w32 (31 + (-16))) H G)))) ∧ (¬ ((0 : Int) < l0) → (((l0 : Int) = 0 → (wJ_numberOfLeadingZeros1_14 Q 32 H G)) ∧ (¬ ((l0 : Int) = 0) → (wJ_numberOfLeadingZeros1_14 Q 0 H G)))))
set_option maxRecDepth 100000 in
set_option maxHeartbeats 4000000 in
theorem sJ_numberOfLeadingZeros1_73 (L : Nat) (xs : Nat → Int32) (Q : Int → e3_H → e3_G → Prop) (l0 : Int) (l1 : Int) (H : e3_H) (G : e3_G) (h : wJ_numberOfLeadingZeros1_73 Q l0 l1 H G) : e3_Ev (wB L xs) 0 0 309 73 [(0, l0), (0, l1)] [] H G (e3_q0 Q) := by
  unfold wJ_numberOfLeadingZeros1_73 at h
  refine e3_K [0, 0, 0, 0, 0] 78 [(0, l0), (0, l1)] [(0, (e3_w32 (l1 - (e3_ushr l0 1))))] (H) (G) (wZ L xs) (M := tbM309) rfl rfl trivial ?_
  exact e3_reti (M := tbM309) rfl rfl rfl ⟨_, rfl, h⟩
set_option maxRecDepth 100000 in
set_option maxHeartbeats 4000000 in
theorem sJ_numberOfLeadingZeros1_61 (L : Nat) (xs : Nat → Int32) (Q : Int → e3_H → e3_G → Prop) (l0 : Int) (l1 : Int) (H : e3_H) (G : e3_G) (h : wJ_numberOfLeadingZeros1_61 Q l0 l1 H G) : e3_Ev (wB L xs) 0 0 309 61 [(0, l0), (0, l1)] [] H G (e3_q0 Q) := by
  unfold wJ_numberOfLeadingZeros1_61 at h
  refine e3_K [0, 0] 63 [(0, l0), (0, l1)] [(0, 4), (0, l0)] (H) (G) (wZ L xs) (M := tbM309) rfl rfl trivial ?_
  refine e3_br (M := tbM309) rfl rfl rfl Iff.rfl (fun hc => ?_) (fun hc => ?_)
  · replace h := h.1 hc
    exact sJ_numberOfLeadingZeros1_73 L xs Q _ _ _ _ h
  · replace h := h.2 hc
    refine e3_K [0, 0, 0, 0, 0] 73 [(0, (e3_ushr l0 2)), (0, (e3_w32 (l1 + (-2))))] [] (H) (G) (wZ L xs) (M := tbM309) rfl rfl trivial ?_
    exact sJ_numberOfLeadingZeros1_73 L xs Q _ _ _ _ h
set_option maxRecDepth 100000 in
set_option maxHeartbeats 4000000 in
theorem sJ_numberOfLeadingZeros1_48 (L : Nat) (xs : Nat → Int32) (Q : Int → e3_H → e3_G → Prop) (l0 : Int) (l1 : Int) (H : e3_H) (G : e3_G) (h : wJ_numberOfLeadingZeros1_48 Q l0 l1 H G) : e3_Ev (wB L xs) 0 0 309 48 [(0, l0), (0, l1)] [] H G (e3_q0 Q) := by
  unfold wJ_numberOfLeadingZeros1_48 at h
  refine e3_K [0, 0] 51 [(0, l0), (0, l1)] [(0, 16), (0, l0)] (H) (G) (wZ L xs) (M := tbM309) rfl rfl trivial ?_
  refine e3_br (M := tbM309) rfl rfl rfl Iff.rfl (fun hc => ?_) (fun hc => ?_)
  · replace h := h.1 hc
    exact sJ_numberOfLeadingZeros1_61 L xs Q _ _ _ _ h
  · replace h := h.2 hc
    refine e3_K [0, 0, 0, 0, 0] 61 [(0, (e3_ushr l0 4)), (0, (e3_w32 (l1 + (-4))))] [] (H) (G) (wZ L xs) (M := tbM309) rfl rfl trivial ?_
    exact sJ_numberOfLeadingZeros1_61 L xs Q _ _ _ _ h
set_option maxRecDepth 100000 in
set_option maxHeartbeats 4000000 in
theorem sJ_numberOfLeadingZeros1_33 (L : Nat) (xs : Nat → Int32) (Q : Int → e3_H → e3_G → Prop) (l0 : Int) (l1 : Int) (H : e3_H) (G : e3_G) (h : wJ_numberOfLeadingZeros1_33 Q l0 l1 H G) : e3_Ev (wB L xs) 0 0 309 33 [(0, l0), (0, l1)] [] H G (e3_q0 Q) := by
  unfold wJ_numberOfLeadingZeros1_33 at h
  refine e3_K [0, 0] 37 [(0, l0), (0, l1)] [(0, 256), (0, l0)] (H) (G) (wZ L xs) (M := tbM309) rfl rfl trivial ?_
  refine e3_br (M := tbM309) rfl rfl rfl Iff.rfl (fun hc => ?_) (fun hc => ?_)
  · replace h := h.1 hc
    exact sJ_numberOfLeadingZeros1_48 L xs Q _ _ _ _ h
  · replace h := h.2 hc
    refine e3_K [0, 0, 0, 0, 0] 48 [(0, (e3_ushr l0 8)), (0, (e3_w32 (l1 + (-8))))] [] (H) (G) (wZ L xs) (M := tbM309) rfl rfl trivial ?_
    exact sJ_numberOfLeadingZeros1_48 L xs Q _ _ _ _ h
set_option maxRecDepth 100000 in
set_option maxHeartbeats 4000000 in
theorem sJ_numberOfLeadingZeros1_14 (L : Nat) (xs : Nat → Int32) (Q : Int → e3_H → e3_G → Prop) (s0 : Int) (H : e3_H) (G : e3_G) (h : wJ_numberOfLeadingZeros1_14 Q s0 H G) : e3_Ev (wB L xs) 0 0 309 14 [(3, 0), (3, 0)] [(0, s0)] H G (e3_q0 Q) := by
  unfold wJ_numberOfLeadingZeros1_14 at h
  exact e3_reti (M := tbM309) rfl rfl rfl ⟨_, rfl, h⟩
set_option maxRecDepth 100000 in
set_option maxHeartbeats 4000000 in
theorem sJ_numberOfLeadingZeros1 (L : Nat) (xs : Nat → Int32) (Q : Int → e3_H → e3_G → Prop) (l0 : Int) (H : e3_H) (G : e3_G) (h : wJ_numberOfLeadingZeros1 Q l0 H G) : e3_Ev (wB L xs) 0 0 309 0 [(0, l0), (3, 0)] [] H G (e3_q0 Q) := by
  unfold wJ_numberOfLeadingZeros1 at h
  refine e3_K [0] 1 [(0, l0), (3, 0)] [(0, l0)] (H) (G) (wZ L xs) (M := tbM309) rfl rfl trivial ?_
  refine e3_br (M := tbM309) rfl rfl rfl Iff.rfl (fun hc => ?_) (fun hc => ?_)
  · replace h := h.1 hc
    refine e3_K [0, 0, 0, 2] 22 [(0, l0), (0, 31)] [(0, 65536), (0, l0)] (H) (G) (wZ L xs) (M := tbM309) rfl rfl ⟨trivial, trivial⟩ ?_
    refine e3_br (M := tbM309) rfl rfl rfl Iff.rfl (fun hc => ?_) (fun hc => ?_)
    · replace h := h.1 hc
      exact sJ_numberOfLeadingZeros1_33 L xs Q _ _ _ _ h
    · replace h := h.2 hc
      refine e3_K [0, 0, 0, 0, 0] 33 [(0, (e3_ushr l0 16)), (0, (e3_w32 (31 + (-16))))] [] (H) (G) (wZ L xs) (M := tbM309) rfl rfl trivial ?_
      exact sJ_numberOfLeadingZeros1_33 L xs Q _ _ _ _ h
  · replace h := h.2 hc
    refine e3_K [0] 5 [(0, l0), (3, 0)] [(0, l0)] (H) (G) (wZ L xs) (M := tbM309) rfl rfl trivial ?_
    refine e3_br (M := tbM309) rfl rfl rfl Iff.rfl (fun hc => ?_) (fun hc => ?_)
    · replace h := h.1 hc
      refine e3_K [0, 0] 14 [(0, l0), (3, 0)] [(0, 32)] (H) (G) (wZ L xs) (M := tbM309) rfl rfl trivial ?_
      refine e3_fgt [false, false] ?_
      exact sJ_numberOfLeadingZeros1_14 L xs Q _ _ _ h
    · replace h := h.2 hc
      refine e3_K [0] 14 [(0, l0), (3, 0)] [(0, 0)] (H) (G) (wZ L xs) (M := tbM309) rfl rfl trivial ?_
      refine e3_fgt [false, false] ?_
      exact sJ_numberOfLeadingZeros1_14 L xs Q _ _ _ h
/-- java/lang/Long.numberOfLeadingZeros(J)I -/
def wJ_numberOfLeadingZeros_25 (Q : Int → e3_H → e3_G → Prop) (s0 : Int) (H : e3_H) (G : e3_G) : Prop :=
  Q s0 H G
def wJ_numberOfLeadingZeros (Q : Int → e3_H → e3_G → Prop) (l0 : Int) (H : e3_H) (G : e3_G) : Prop :=
  ((((e3_w32 (e3_lushr l0 32)) : Int) = 0 → (wJ_numberOfLeadingZeros1 (fun x3 H1 G2 => (wJ_numberOfLeadingZeros_25 Q (e3_w32 (32 + x3)) H1 G2)) (e3_w32 l0) H G)) ∧ (¬ (((e3_w32 (e3_lushr l0 32)) : Int) = 0) → (wJ_numberOfLeadingZeros1 (fun x6 H4 G5 => (wJ_numberOfLeadingZeros_25 Q x6 H4 G5)) (e3_w32 (e3_lushr l0 32)) H G)))
set_option maxRecDepth 100000 in
set_option maxHeartbeats 4000000 in
theorem sJ_numberOfLeadingZeros_25 (L : Nat) (xs : Nat → Int32) (Q : Int → e3_H → e3_G → Prop) (s0 : Int) (H : e3_H) (G : e3_G) (h : wJ_numberOfLeadingZeros_25 Q s0 H G) : e3_Ev (wB L xs) 1 21 308 25 [(3, 0), (3, 0), (3, 0)] [(0, s0)] H G (e3_q0 Q) := by
  unfold wJ_numberOfLeadingZeros_25 at h
  exact e3_reti (M := tbM308) rfl rfl rfl ⟨_, rfl, h⟩
set_option maxRecDepth 100000 in
set_option maxHeartbeats 4000000 in
theorem sJ_numberOfLeadingZeros (L : Nat) (xs : Nat → Int32) (Q : Int → e3_H → e3_G → Prop) (l0 : Int) (H : e3_H) (G : e3_G) (h : wJ_numberOfLeadingZeros Q l0 H G) : e3_Ev (wB L xs) 1 21 308 0 [(1, l0), (3, 0), (3, 0)] [] H G (e3_q0 Q) := by
  unfold wJ_numberOfLeadingZeros at h
  refine e3_K [0, 0, 0, 0, 0, 0] 7 [(1, l0), (3, 0), (0, (e3_w32 (e3_lushr l0 32)))] [(0, (e3_w32 (e3_lushr l0 32)))] (H) (G) (wZ L xs) (M := tbM308) rfl rfl trivial ?_
  refine e3_br (M := tbM308) rfl rfl rfl Iff.rfl (fun hc => ?_) (fun hc => ?_)
  · replace h := h.1 hc
    refine e3_K [0, 0, 0] 14 [(1, l0), (3, 0), (0, (e3_w32 (e3_lushr l0 32)))] [(0, (e3_w32 l0)), (0, 32)] (H) (G) (wZ L xs) (M := tbM308) rfl rfl trivial ?_
    refine e3_call (o := 0) (k := 309) (M2 := tbM309) (f1 := 0) (w1 := 0) (as := [(0, (e3_w32 l0))]) (rest := [(0, 32)]) (M := tbM308) rfl rfl rfl trivial (Nat.le_of_ble_eq_true rfl) (Nat.le_of_ble_eq_true rfl) (Nat.le_of_ble_eq_true rfl) ?_
    refine e3_mono (sJ_numberOfLeadingZeros1 L xs _ _ _ _ h) (fun r H1 G2 h => ?_)
    obtain ⟨x3, rfl, h⟩ := h
    change e3_Ev _ _ _ _ 17 [(1, l0), (3, 0), (0, (e3_w32 (e3_lushr l0 32)))] [(0, x3), (0, 32)] H1 G2 _
    refine e3_K [0, 0] 25 [(1, l0), (3, 0), (0, (e3_w32 (e3_lushr l0 32)))] [(0, (e3_w32 (32 + x3)))] (H1) (G2) (wZ L xs) (M := tbM308) rfl rfl trivial ?_
    refine e3_fgt [false, false, false] ?_
    exact sJ_numberOfLeadingZeros_25 L xs Q _ _ _ h
  · replace h := h.2 hc
    refine e3_K [0] 22 [(1, l0), (3, 0), (0, (e3_w32 (e3_lushr l0 32)))] [(0, (e3_w32 (e3_lushr l0 32)))] (H) (G) (wZ L xs) (M := tbM308) rfl rfl trivial ?_
    refine e3_call (o := 0) (k := 309) (M2 := tbM309) (f1 := 0) (w1 := 0) (as := [(0, (e3_w32 (e3_lushr l0 32)))]) (rest := []) (M := tbM308) rfl rfl rfl trivial (Nat.le_of_ble_eq_true rfl) (Nat.le_of_ble_eq_true rfl) (Nat.le_of_ble_eq_true rfl) ?_
    refine e3_mono (sJ_numberOfLeadingZeros1 L xs _ _ _ _ h) (fun r H4 G5 h => ?_)
    obtain ⟨x6, rfl, h⟩ := h
    change e3_Ev _ _ _ _ 25 [(1, l0), (3, 0), (0, (e3_w32 (e3_lushr l0 32)))] [(0, x6)] H4 G5 _
    refine e3_fgt [false, false, false] ?_
    exact sJ_numberOfLeadingZeros_25 L xs Q _ _ _ h
/-- LetterPost$Letters.worth(I)I -/
def wL_worth (Q : Int → e3_H → e3_G → Prop) (l1 : Int) (H : e3_H) (G : e3_G) : Prop :=
  ((0 : Int) ≤ l1 ∧ (l1 : Int) < 160) ∧ ((((H 27 l1) : Int) = 2 → ((0 : Int) ≤ l1 ∧ (l1 : Int) < 160) ∧ (wJ_numberOfLeadingZeros (fun x5 H3 G4 => ((8 : Int) ≠ 0) ∧ Q (e3_div (e3_w32 (71 - x5)) 8) H3 G4) (H 28 l1) H G)) ∧ (((H 27 l1) : Int) = 3 → Q (-4) H G) ∧ (¬ ((H 27 l1) : Int) = 2 ∧ ¬ ((H 27 l1) : Int) = 3 → ((0 : Int) ≤ l1 ∧ (l1 : Int) < 160) ∧ Q (e3_w32 (H 28 l1)) H G))
set_option maxRecDepth 100000 in
set_option maxHeartbeats 4000000 in
theorem sL_worth (L : Nat) (xs : Nat → Int32) (Q : Int → e3_H → e3_G → Prop) (l1 : Int) (H : e3_H) (G : e3_G) (h : wL_worth Q l1 H G) : e3_Ev (wB L xs) 2 43 164 0 [(2, 26), (0, l1)] [] H G (e3_q0 Q) := by
  unfold wL_worth at h
  obtain ⟨o1, h⟩ := h
  refine e3_K [0, 4, 0, 2] 6 [(2, 26), (0, l1)] [(0, (H 27 l1))] (H) (G) (wZ L xs) (M := tbM164) rfl rfl ⟨trivial, o1, trivial⟩ ?_
  by_cases hc0 : ((H 27 l1) : Int) = 2
  · replace h := h.1 hc0
    refine e3_sw (M := tbM164) rfl rfl hc0 rfl ?_
    obtain ⟨o2, h⟩ := h
    refine e3_K [0, 0, 4, 0, 2] 40 [(2, 26), (0, l1)] [(1, (H 28 l1)), (0, 71)] (H) (G) (wZ L xs) (M := tbM164) rfl rfl ⟨trivial, o2, trivial⟩ ?_
    refine e3_call (o := 0) (k := 308) (M2 := tbM308) (f1 := 1) (w1 := 21) (as := [(1, (H 28 l1))]) (rest := [(0, 71)]) (M := tbM164) rfl rfl rfl trivial (Nat.le_of_ble_eq_true rfl) (Nat.le_of_ble_eq_true rfl) (Nat.le_of_ble_eq_true rfl) ?_
    refine e3_mono (sJ_numberOfLeadingZeros L xs _ _ _ _ h) (fun r H3 G4 h => ?_)
    obtain ⟨x5, rfl, h⟩ := h
    change e3_Ev _ _ _ _ 43 [(2, 26), (0, l1)] [(0, x5), (0, 71)] H3 G4 _
    obtain ⟨o6, h⟩ := h
    refine e3_K [0, 0, 1] 47 [(2, 26), (0, l1)] [(0, (e3_div (e3_w32 (71 - x5)) 8))] (H3) (G4) (wZ L xs) (M := tbM164) rfl rfl ⟨o6, trivial⟩ ?_
    exact e3_reti (M := tbM164) rfl rfl rfl ⟨_, rfl, h⟩
  replace h := h.2
  by_cases hc1 : ((H 27 l1) : Int) = 3
  · replace h := h.1 hc1
    refine e3_sw (M := tbM164) rfl rfl hc1 rfl ?_
    refine e3_K [0] 50 [(2, 26), (0, l1)] [(0, (-4))] (H) (G) (wZ L xs) (M := tbM164) rfl rfl trivial ?_
    exact e3_reti (M := tbM164) rfl rfl rfl ⟨_, rfl, h⟩
  replace h := h.2
  replace h := h ⟨hc0, hc1⟩
  refine e3_sw (M := tbM164) rfl rfl rfl ((e3_swdl rfl (fun q hq => (by
      have hq : q ∈ ([(2, 26), (3, 42)] : List (Int × Int)) := hq
      simp only [List.mem_cons, List.not_mem_nil, or_false] at hq
      rcases hq with rfl | rfl
      all_goals (intro hz; simp only at hz; omega)))).trans rfl) ?_
  obtain ⟨o7, h⟩ := h
  refine e3_K [0, 4, 0, 2, 0] 58 [(2, 26), (0, l1)] [(0, (e3_w32 (H 28 l1)))] (H) (G) (wZ L xs) (M := tbM164) rfl rfl ⟨trivial, o7, trivial⟩ ?_
  exact e3_reti (M := tbM164) rfl rfl rfl ⟨_, rfl, h⟩
/-- LetterPost$Letters.part(II)I -/
def wL_part_51 (Q : Int → e3_H → e3_G → Prop) (s0 : Int) (H : e3_H) (G : e3_G) : Prop :=
  Q s0 H G
def wL_part_31 (Q : Int → e3_H → e3_G → Prop) (l1 : Int) (l2 : Int) (s0 : Int) (H : e3_H) (G : e3_G) : Prop :=
  (((s0 : Int) = 0 → (wL_part_51 Q (-4) H G)) ∧ (¬ ((s0 : Int) = 0) → ((0 : Int) ≤ (e3_w32 ((e3_w32 (l1 * 4)) + l2)) ∧ ((e3_w32 ((e3_w32 (l1 * 4)) + l2)) : Int) < 640) ∧ (wL_part_51 Q (H 31 (e3_w32 ((e3_w32 (l1 * 4)) + l2))) H G)))
def wL_part_30 (Q : Int → e3_H → e3_G → Prop) (l1 : Int) (l2 : Int) (H : e3_H) (G : e3_G) : Prop :=
  (wL_part_31 Q l1 l2 0 H G)
def wL_part (Q : Int → e3_H → e3_G → Prop) (l1 : Int) (l2 : Int) (H : e3_H) (G : e3_G) : Prop :=
  (((l1 : Int) < 0 → (wL_part_30 Q l1 l2 H G)) ∧ (¬ ((l1 : Int) < 0) → (((l1 : Int) < (H 26 1) → (((l2 : Int) < 0 → (wL_part_30 Q l1 l2 H G)) ∧ (¬ ((l2 : Int) < 0) → ((0 : Int) ≤ l1 ∧ (l1 : Int) < 160) ∧ (((l2 : Int) < (H 30 l1) → (wL_part_31 Q l1 l2 1 H G)) ∧ (¬ ((l2 : Int) < (H 30 l1)) → (wL_part_30 Q l1 l2 H G)))))) ∧ (¬ ((l1 : Int) < (H 26 1)) → (wL_part_30 Q l1 l2 H G)))))
set_option maxRecDepth 100000 in
set_option maxHeartbeats 4000000 in
theorem sL_part_51 (L : Nat) (xs : Nat → Int32) (Q : Int → e3_H → e3_G → Prop) (s0 : Int) (H : e3_H) (G : e3_G) (h : wL_part_51 Q s0 H G) : e3_Ev (wB L xs) 0 0 165 51 [(3, 0), (3, 0), (3, 0), (3, 0)] [(0, s0)] H G (e3_q0 Q) := by
  unfold wL_part_51 at h
  exact e3_reti (M := tbM165) rfl rfl rfl ⟨_, rfl, h⟩
set_option maxRecDepth 100000 in
set_option maxHeartbeats 4000000 in
theorem sL_part_31 (L : Nat) (xs : Nat → Int32) (Q : Int → e3_H → e3_G → Prop) (l1 : Int) (l2 : Int) (s0 : Int) (H : e3_H) (G : e3_G) (h : wL_part_31 Q l1 l2 s0 H G) : e3_Ev (wB L xs) 0 0 165 31 [(2, 26), (0, l1), (0, l2), (3, 0)] [(0, s0)] H G (e3_q0 Q) := by
  unfold wL_part_31 at h
  refine e3_K [0, 0] 33 [(2, 26), (0, l1), (0, l2), (0, s0)] [(0, s0)] (H) (G) (wZ L xs) (M := tbM165) rfl rfl trivial ?_
  refine e3_br (M := tbM165) rfl rfl rfl Iff.rfl (fun hc => ?_) (fun hc => ?_)
  · replace h := h.1 hc
    refine e3_K [0] 51 [(2, 26), (0, l1), (0, l2), (0, s0)] [(0, (-4))] (H) (G) (wZ L xs) (M := tbM165) rfl rfl trivial ?_
    refine e3_fgt [false, false, false, false] ?_
    exact sL_part_51 L xs Q _ _ _ h
  · replace h := h.2 hc
    obtain ⟨o1, h⟩ := h
    refine e3_K [0, 4, 0, 0, 0, 0, 0, 2, 0] 51 [(2, 26), (0, l1), (0, l2), (0, s0)] [(0, (H 31 (e3_w32 ((e3_w32 (l1 * 4)) + l2))))] (H) (G) (wZ L xs) (M := tbM165) rfl rfl ⟨trivial, o1, trivial⟩ ?_
    refine e3_fgt [false, false, false, false] ?_
    exact sL_part_51 L xs Q _ _ _ h
set_option maxRecDepth 100000 in
set_option maxHeartbeats 4000000 in
theorem sL_part_30 (L : Nat) (xs : Nat → Int32) (Q : Int → e3_H → e3_G → Prop) (l1 : Int) (l2 : Int) (H : e3_H) (G : e3_G) (h : wL_part_30 Q l1 l2 H G) : e3_Ev (wB L xs) 0 0 165 30 [(2, 26), (0, l1), (0, l2), (3, 0)] [] H G (e3_q0 Q) := by
  unfold wL_part_30 at h
  refine e3_K [0] 31 [(2, 26), (0, l1), (0, l2), (3, 0)] [(0, 0)] (H) (G) (wZ L xs) (M := tbM165) rfl rfl trivial ?_
  exact sL_part_31 L xs Q _ _ _ _ _ h
set_option maxRecDepth 100000 in
set_option maxHeartbeats 4000000 in
theorem sL_part (L : Nat) (xs : Nat → Int32) (Q : Int → e3_H → e3_G → Prop) (l1 : Int) (l2 : Int) (H : e3_H) (G : e3_G) (h : wL_part Q l1 l2 H G) : e3_Ev (wB L xs) 0 0 165 0 [(2, 26), (0, l1), (0, l2), (3, 0)] [] H G (e3_q0 Q) := by
  unfold wL_part at h
  refine e3_K [0] 1 [(2, 26), (0, l1), (0, l2), (3, 0)] [(0, l1)] (H) (G) (wZ L xs) (M := tbM165) rfl rfl trivial ?_
  refine e3_br (M := tbM165) rfl rfl rfl Iff.rfl (fun hc => ?_) (fun hc => ?_)
  · replace h := h.1 hc
    exact sL_part_30 L xs Q _ _ _ _ h
  · replace h := h.2 hc
    refine e3_K [0, 0, 2] 9 [(2, 26), (0, l1), (0, l2), (3, 0)] [(0, (H 26 1)), (0, l1)] (H) (G) (wZ L xs) (M := tbM165) rfl rfl ⟨trivial, trivial⟩ ?_
    refine e3_br (M := tbM165) rfl rfl rfl Iff.rfl (fun hc => ?_) (fun hc => ?_)
    · replace h := h.1 hc
      refine e3_K [0] 13 [(2, 26), (0, l1), (0, l2), (3, 0)] [(0, l2)] (H) (G) (wZ L xs) (M := tbM165) rfl rfl trivial ?_
      refine e3_br (M := tbM165) rfl rfl rfl Iff.rfl (fun hc => ?_) (fun hc => ?_)
      · replace h := h.1 hc
        exact sL_part_30 L xs Q _ _ _ _ h
      · replace h := h.2 hc
        obtain ⟨o1, h⟩ := h
        refine e3_K [0, 0, 4, 0, 2] 23 [(2, 26), (0, l1), (0, l2), (3, 0)] [(0, (H 30 l1)), (0, l2)] (H) (G) (wZ L xs) (M := tbM165) rfl rfl ⟨trivial, o1, trivial⟩ ?_
        refine e3_br (M := tbM165) rfl rfl rfl Iff.rfl (fun hc => ?_) (fun hc => ?_)
        · replace h := h.1 hc
          refine e3_K [0, 0] 31 [(2, 26), (0, l1), (0, l2), (3, 0)] [(0, 1)] (H) (G) (wZ L xs) (M := tbM165) rfl rfl trivial ?_
          exact sL_part_31 L xs Q _ _ _ _ _ h
        · replace h := h.2 hc
          exact sL_part_30 L xs Q _ _ _ _ h
    · replace h := h.2 hc
      exact sL_part_30 L xs Q _ _ _ _ h
/-- LetterPost$Letters.tell(II)I -/
def wL_tell_66 (Q : Int → e3_H → e3_G → Prop) (s0 : Int) (H : e3_H) (G : e3_G) : Prop :=
  Q s0 H G
def wL_tell (Q : Int → e3_H → e3_G → Prop) (l1 : Int) (l2 : Int) (H : e3_H) (G : e3_G) : Prop :=
  (((l2 : Int) = 0 → ((0 : Int) ≤ l1 ∧ (l1 : Int) < 160) ∧ Q (H 27 l1) H G) ∧ ((l2 : Int) = 1 → (wL_worth (fun x4 H2 G3 => Q x4 H2 G3) l1 H G)) ∧ ((l2 : Int) = 2 → ((0 : Int) ≤ l1 ∧ (l1 : Int) < 160) ∧ Q (H 29 l1) H G) ∧ ((l2 : Int) < 0 ∨ 2 < l2 → (((l2 : Int) < 3 → (wL_tell_66 Q (-4) H G)) ∧ (¬ ((l2 : Int) < 3) → (wL_part (fun x8 H6 G7 => (wL_tell_66 Q x8 H6 G7)) l1 (e3_w32 (l2 - 3)) H G)))))
set_option maxRecDepth 100000 in
set_option maxHeartbeats 4000000 in
theorem sL_tell_66 (L : Nat) (xs : Nat → Int32) (Q : Int → e3_H → e3_G → Prop) (s0 : Int) (H : e3_H) (G : e3_G) (h : wL_tell_66 Q s0 H G) : e3_Ev (wB L xs) 3 64 163 66 [(3, 0), (3, 0), (3, 0)] [(0, s0)] H G (e3_q0 Q) := by
  unfold wL_tell_66 at h
  exact e3_reti (M := tbM163) rfl rfl rfl ⟨_, rfl, h⟩
set_option maxRecDepth 100000 in
set_option maxHeartbeats 4000000 in
theorem sL_tell (L : Nat) (xs : Nat → Int32) (Q : Int → e3_H → e3_G → Prop) (l1 : Int) (l2 : Int) (H : e3_H) (G : e3_G) (h : wL_tell Q l1 l2 H G) : e3_Ev (wB L xs) 3 64 163 0 [(2, 26), (0, l1), (0, l2)] [] H G (e3_q0 Q) := by
  unfold wL_tell at h
  refine e3_K [0] 1 [(2, 26), (0, l1), (0, l2)] [(0, l2)] (H) (G) (wZ L xs) (M := tbM163) rfl rfl trivial ?_
  by_cases hc0 : (l2 : Int) = 0
  · replace h := h.1 hc0
    refine e3_sw (M := tbM163) rfl rfl hc0 rfl ?_
    obtain ⟨o1, h⟩ := h
    refine e3_K [0, 4, 0, 2] 34 [(2, 26), (0, l1), (0, l2)] [(0, (H 27 l1))] (H) (G) (wZ L xs) (M := tbM163) rfl rfl ⟨trivial, o1, trivial⟩ ?_
    exact e3_reti (M := tbM163) rfl rfl rfl ⟨_, rfl, h⟩
  replace h := h.2
  by_cases hc1 : (l2 : Int) = 1
  · replace h := h.1 hc1
    refine e3_sw (M := tbM163) rfl rfl hc1 rfl ?_
    refine e3_K [0, 0] 37 [(2, 26), (0, l1), (0, l2)] [(0, l1), (2, 26)] (H) (G) (wZ L xs) (M := tbM163) rfl rfl trivial ?_
    refine e3_call (o := 0) (k := 164) (M2 := tbM164) (f1 := 2) (w1 := 43) (as := [(2, 26), (0, l1)]) (rest := []) (M := tbM163) rfl rfl rfl trivial (Nat.le_of_ble_eq_true rfl) (Nat.le_of_ble_eq_true rfl) (Nat.le_of_ble_eq_true rfl) ?_
    refine e3_mono (sL_worth L xs _ _ _ _ h) (fun r H2 G3 h => ?_)
    obtain ⟨x4, rfl, h⟩ := h
    change e3_Ev _ _ _ _ 40 [(2, 26), (0, l1), (0, l2)] [(0, x4)] H2 G3 _
    exact e3_reti (M := tbM163) rfl rfl rfl ⟨_, rfl, h⟩
  replace h := h.2
  by_cases hc2 : (l2 : Int) = 2
  · replace h := h.1 hc2
    refine e3_sw (M := tbM163) rfl rfl hc2 rfl ?_
    obtain ⟨o5, h⟩ := h
    refine e3_K [0, 4, 0, 2] 47 [(2, 26), (0, l1), (0, l2)] [(0, (H 29 l1))] (H) (G) (wZ L xs) (M := tbM163) rfl rfl ⟨trivial, o5, trivial⟩ ?_
    exact e3_reti (M := tbM163) rfl rfl rfl ⟨_, rfl, h⟩
  replace h := h.2
  replace h := h (by omega)
  refine e3_sw (M := tbM163) rfl rfl rfl ((e3_swdt (by omega)).trans rfl) ?_
  refine e3_K [0, 0] 50 [(2, 26), (0, l1), (0, l2)] [(0, 3), (0, l2)] (H) (G) (wZ L xs) (M := tbM163) rfl rfl trivial ?_
  refine e3_br (M := tbM163) rfl rfl rfl Iff.rfl (fun hc => ?_) (fun hc => ?_)
  · replace h := h.1 hc
    refine e3_K [0, 0] 66 [(2, 26), (0, l1), (0, l2)] [(0, (-4))] (H) (G) (wZ L xs) (M := tbM163) rfl rfl trivial ?_
    refine e3_fgt [false, false, false] ?_
    exact sL_tell_66 L xs Q _ _ _ h
  · replace h := h.2 hc
    refine e3_K [0, 0, 0, 0, 0] 63 [(2, 26), (0, l1), (0, l2)] [(0, (e3_w32 (l2 - 3))), (0, l1), (2, 26)] (H) (G) (wZ L xs) (M := tbM163) rfl rfl trivial ?_
    refine e3_call (o := 0) (k := 165) (M2 := tbM165) (f1 := 0) (w1 := 0) (as := [(2, 26), (0, l1), (0, (e3_w32 (l2 - 3)))]) (rest := []) (M := tbM163) rfl rfl rfl trivial (Nat.le_of_ble_eq_true rfl) (Nat.le_of_ble_eq_true rfl) (Nat.le_of_ble_eq_true rfl) ?_
    refine e3_mono (sL_part L xs _ _ _ _ _ h) (fun r H6 G7 h => ?_)
    obtain ⟨x8, rfl, h⟩ := h
    change e3_Ev _ _ _ _ 66 [(2, 26), (0, l1), (0, l2)] [(0, x8)] H6 G7 _
    refine e3_fgt [false, false, false] ?_
    exact sL_tell_66 L xs Q _ _ _ h
/-- LetterPost.value(II)I -/
def wP_value_25 (Q : Int → e3_H → e3_G → Prop) (s0 : Int) (H : e3_H) (G : e3_G) : Prop :=
  Q s0 H G
def wP_value (Q : Int → e3_H → e3_G → Prop) (l1 : Int) (l2 : Int) (H : e3_H) (G : e3_G) : Prop :=
  (wL_has (fun x3 H1 G2 => (((x3 : Int) = 0 → (wP_value_25 Q (-4) H1 G2)) ∧ (¬ ((x3 : Int) = 0) → (wL_tell (fun x6 H4 G5 => (wP_value_25 Q x6 H4 G5)) l1 l2 H1 G2)))) l1 H G)
set_option maxRecDepth 100000 in
set_option maxHeartbeats 4000000 in
theorem sP_value_25 (L : Nat) (xs : Nat → Int32) (Q : Int → e3_H → e3_G → Prop) (s0 : Int) (H : e3_H) (G : e3_G) (h : wP_value_25 Q s0 H G) : e3_Ev (wB L xs) 4 86 162 25 [(3, 0), (3, 0), (3, 0)] [(0, s0)] H G (e3_q0 Q) := by
  unfold wP_value_25 at h
  exact e3_reti (M := tbM162) rfl rfl rfl ⟨_, rfl, h⟩
set_option maxRecDepth 100000 in
set_option maxHeartbeats 4000000 in
theorem sP_value (L : Nat) (xs : Nat → Int32) (Q : Int → e3_H → e3_G → Prop) (l1 : Int) (l2 : Int) (H : e3_H) (G : e3_G) (h : wP_value Q l1 l2 H G) : e3_Ev (wB L xs) 4 86 162 0 [(2, 2), (0, l1), (0, l2)] [] H G (e3_q0 Q) := by
  unfold wP_value at h
  refine e3_K [0, 4, 0] 5 [(2, 2), (0, l1), (0, l2)] [(0, l1), (2, 26)] (H) (G) (wZ L xs) (M := tbM162) rfl rfl ⟨trivial, trivial⟩ ?_
  refine e3_call (o := 0) (k := 160) (M2 := tbM160) (f1 := 0) (w1 := 0) (as := [(2, 26), (0, l1)]) (rest := []) (M := tbM162) rfl rfl rfl trivial (Nat.le_of_ble_eq_true rfl) (Nat.le_of_ble_eq_true rfl) (Nat.le_of_ble_eq_true rfl) ?_
  refine e3_mono (sL_has L xs _ _ _ _ h) (fun r H1 G2 h => ?_)
  obtain ⟨x3, rfl, h⟩ := h
  change e3_Ev _ _ _ _ 8 [(2, 2), (0, l1), (0, l2)] [(0, x3)] H1 G2 _
  refine e3_br (M := tbM162) rfl rfl rfl Iff.rfl (fun hc => ?_) (fun hc => ?_)
  · replace h := h.1 hc
    refine e3_K [0] 25 [(2, 2), (0, l1), (0, l2)] [(0, (-4))] (H1) (G2) (wZ L xs) (M := tbM162) rfl rfl trivial ?_
    refine e3_fgt [false, false, false] ?_
    exact sP_value_25 L xs Q _ _ _ h
  · replace h := h.2 hc
    refine e3_K [0, 4, 0, 0] 17 [(2, 2), (0, l1), (0, l2)] [(0, l2), (0, l1), (2, 26)] (H1) (G2) (wZ L xs) (M := tbM162) rfl rfl ⟨trivial, trivial⟩ ?_
    refine e3_call (o := 0) (k := 163) (M2 := tbM163) (f1 := 3) (w1 := 64) (as := [(2, 26), (0, l1), (0, l2)]) (rest := []) (M := tbM162) rfl rfl rfl trivial (Nat.le_of_ble_eq_true rfl) (Nat.le_of_ble_eq_true rfl) (Nat.le_of_ble_eq_true rfl) ?_
    refine e3_mono (sL_tell L xs _ _ _ _ _ h) (fun r H4 G5 h => ?_)
    obtain ⟨x6, rfl, h⟩ := h
    change e3_Ev _ _ _ _ 20 [(2, 2), (0, l1), (0, l2)] [(0, x6)] H4 G5 _
    refine e3_K [0] 25 [(2, 2), (0, l1), (0, l2)] [(0, x6)] (H4) (G5) (wZ L xs) (M := tbM162) rfl rfl trivial ?_
    refine e3_fgt [false, false, false] ?_
    exact sP_value_25 L xs Q _ _ _ h
/-- LetterPost.alike(II)I -/
def wP_alike_22 (Q : Int → e3_H → e3_G → Prop)  (H : e3_H) (G : e3_G) : Prop :=
  Q (-1) H G
def wP_alike_50 (Q : Int → e3_H → e3_G → Prop) (s0 : Int) (H : e3_H) (G : e3_G) : Prop :=
  Q s0 H G
def wP_alike (Q : Int → e3_H → e3_G → Prop) (l1 : Int) (l2 : Int) (H : e3_H) (G : e3_G) : Prop :=
  (wL_has (fun x3 H1 G2 => (((x3 : Int) = 0 → (wP_alike_22 Q H1 G2)) ∧ (¬ ((x3 : Int) = 0) → (wL_has (fun x6 H4 G5 => (((x6 : Int) = 0 → (wP_alike_22 Q H4 G5)) ∧ (¬ ((x6 : Int) = 0) → ((0 : Int) ≤ l1 ∧ (l1 : Int) < 160) ∧ ((0 : Int) ≤ l2 ∧ (l2 : Int) < 160) ∧ ((((H4 32 l1) : Int) = (H4 32 l2) → (wP_alike_50 Q 1 H4 G5)) ∧ (¬ (((H4 32 l1) : Int) = (H4 32 l2)) → (wP_alike_50 Q 0 H4 G5)))))) l2 H1 G2)))) l1 H G)
set_option maxRecDepth 100000 in
set_option maxHeartbeats 4000000 in
theorem sP_alike_22 (L : Nat) (xs : Nat → Int32) (Q : Int → e3_H → e3_G → Prop)  (H : e3_H) (G : e3_G) (h : wP_alike_22 Q  H G) : e3_Ev (wB L xs) 1 21 166 22 [(3, 0), (3, 0), (3, 0)] [] H G (e3_q0 Q) := by
  unfold wP_alike_22 at h
  refine e3_K [0] 23 [(3, 0), (3, 0), (3, 0)] [(0, (-1))] (H) (G) (wZ L xs) (M := tbM166) rfl rfl trivial ?_
  exact e3_reti (M := tbM166) rfl rfl rfl ⟨_, rfl, h⟩
set_option maxRecDepth 100000 in
set_option maxHeartbeats 4000000 in
theorem sP_alike_50 (L : Nat) (xs : Nat → Int32) (Q : Int → e3_H → e3_G → Prop) (s0 : Int) (H : e3_H) (G : e3_G) (h : wP_alike_50 Q s0 H G) : e3_Ev (wB L xs) 1 21 166 50 [(3, 0), (3, 0), (3, 0)] [(0, s0)] H G (e3_q0 Q) := by
  unfold wP_alike_50 at h
  exact e3_reti (M := tbM166) rfl rfl rfl ⟨_, rfl, h⟩
set_option maxRecDepth 100000 in
set_option maxHeartbeats 4000000 in
theorem sP_alike (L : Nat) (xs : Nat → Int32) (Q : Int → e3_H → e3_G → Prop) (l1 : Int) (l2 : Int) (H : e3_H) (G : e3_G) (h : wP_alike Q l1 l2 H G) : e3_Ev (wB L xs) 1 21 166 0 [(2, 2), (0, l1), (0, l2)] [] H G (e3_q0 Q) := by
  unfold wP_alike at h
  refine e3_K [0, 4, 0] 5 [(2, 2), (0, l1), (0, l2)] [(0, l1), (2, 26)] (H) (G) (wZ L xs) (M := tbM166) rfl rfl ⟨trivial, trivial⟩ ?_
  refine e3_call (o := 0) (k := 160) (M2 := tbM160) (f1 := 0) (w1 := 0) (as := [(2, 26), (0, l1)]) (rest := []) (M := tbM166) rfl rfl rfl trivial (Nat.le_of_ble_eq_true rfl) (Nat.le_of_ble_eq_true rfl) (Nat.le_of_ble_eq_true rfl) ?_
  refine e3_mono (sL_has L xs _ _ _ _ h) (fun r H1 G2 h => ?_)
  obtain ⟨x3, rfl, h⟩ := h
  change e3_Ev _ _ _ _ 8 [(2, 2), (0, l1), (0, l2)] [(0, x3)] H1 G2 _
  refine e3_br (M := tbM166) rfl rfl rfl Iff.rfl (fun hc => ?_) (fun hc => ?_)
  · replace h := h.1 hc
    refine e3_fgt [false, false, false] ?_
    exact sP_alike_22 L xs Q _ _ h
  · replace h := h.2 hc
    refine e3_K [0, 4, 0] 16 [(2, 2), (0, l1), (0, l2)] [(0, l2), (2, 26)] (H1) (G2) (wZ L xs) (M := tbM166) rfl rfl ⟨trivial, trivial⟩ ?_
    refine e3_call (o := 0) (k := 160) (M2 := tbM160) (f1 := 0) (w1 := 0) (as := [(2, 26), (0, l2)]) (rest := []) (M := tbM166) rfl rfl rfl trivial (Nat.le_of_ble_eq_true rfl) (Nat.le_of_ble_eq_true rfl) (Nat.le_of_ble_eq_true rfl) ?_
    refine e3_mono (sL_has L xs _ _ _ _ h) (fun r H4 G5 h => ?_)
    obtain ⟨x6, rfl, h⟩ := h
    change e3_Ev _ _ _ _ 19 [(2, 2), (0, l1), (0, l2)] [(0, x6)] H4 G5 _
    refine e3_br (M := tbM166) rfl rfl rfl Iff.rfl (fun hc => ?_) (fun hc => ?_)
    · replace h := h.1 hc
      refine e3_fgt [false, false, false] ?_
      exact sP_alike_22 L xs Q _ _ h
    · replace h := h.2 hc
      obtain ⟨o7, o8, h⟩ := h
      refine e3_K [0, 4, 4, 0, 2, 0, 4, 4, 0, 2] 42 [(2, 2), (0, l1), (0, l2)] [(0, (H4 32 l2)), (0, (H4 32 l1))] (H4) (G5) (wZ L xs) (M := tbM166) rfl rfl ⟨trivial, trivial, o7, trivial, trivial, o8, trivial⟩ ?_
      refine e3_br (M := tbM166) rfl rfl rfl Iff.rfl (fun hc => ?_) (fun hc => ?_)
      · replace h := h.1 hc
        refine e3_K [0, 0] 50 [(2, 2), (0, l1), (0, l2)] [(0, 1)] (H4) (G5) (wZ L xs) (M := tbM166) rfl rfl trivial ?_
        refine e3_fgt [false, false, false] ?_
        exact sP_alike_50 L xs Q _ _ _ h
      · replace h := h.2 hc
        refine e3_K [0] 50 [(2, 2), (0, l1), (0, l2)] [(0, 0)] (H4) (G5) (wZ L xs) (M := tbM166) rfl rfl trivial ?_
        refine e3_fgt [false, false, false] ?_
        exact sP_alike_50 L xs Q _ _ _ h
/-- LetterPost$Sorter.takes(IIII)Z -/
def wS_takes_42 (Q : Int → e3_H → e3_G → Prop) : Nat → Int → Int → e3_H → e3_G → Prop
  | 0, _, _, _, _ => False
  | nn + 1, l5, l6, H, G => (e3_ob G 8 l5) ∧ (((l6 : Int) < (H l5 1) → ((0 : Int) ≤ l6 ∧ (l6 : Int) < 3) ∧ (e3_ob G 8 l5) ∧ (e3_oa G 0 (H l5 2) l6) ∧ (wL_isOf (fun x7 H5 G6 => (((x7 : Int) = 0 → Q 0 H5 G6) ∧ (¬ ((x7 : Int) = 0) → (wS_takes_42 Q nn l5 (e3_w32 (l6 + 1)) H5 G6)))) (H 35 l6) (H (H l5 2) l6) H G)) ∧ (¬ ((l6 : Int) < (H l5 1)) → Q 1 H G))
def wS_takes (Q : Int → e3_H → e3_G → Prop) (l1 : Int) (l2 : Int) (l3 : Int) (l4 : Int) (H : e3_H) (G : e3_G) : Prop :=
  (wR_functionAt (fun x3 H1 G2 => (((x3 : Int) < 0 → Q 0 H1 G2) ∧ (¬ ((x3 : Int) < 0) → ∀ H4 : e3_H, H4 = e3_up H1 35 0 l2 → ∀ H5 : e3_H, H5 = e3_up H4 35 1 l3 → ∀ H6 : e3_H, H6 = e3_up H5 35 2 l4 → (∃ n, wS_takes_42 Q n x3 0 H6 G2)))) l1 H G)
set_option maxRecDepth 100000 in
set_option maxHeartbeats 4000000 in
theorem sS_takes_42 (L : Nat) (xs : Nat → Int32) (Q : Int → e3_H → e3_G → Prop) : ∀ (nl : Nat) (l5 : Int) (l6 : Int) (H : e3_H) (G : e3_G), wS_takes_42 Q nl l5 l6 H G → e3_Ev (wB L xs) 2 46 168 42 [(2, 34), (3, 0), (3, 0), (3, 0), (3, 0), (2, l5), (0, l6)] [] H G (e3_q0 Q) := by
  intro nl
  induction nl with
  | zero => intro l5 l6 H G h; exact h.elim
  | succ nn ih =>
    intro l5 l6 H G h
    have h : (e3_ob G 8 l5) ∧ (((l6 : Int) < (H l5 1) → ((0 : Int) ≤ l6 ∧ (l6 : Int) < 3) ∧ (e3_ob G 8 l5) ∧ (e3_oa G 0 (H l5 2) l6) ∧ (wL_isOf (fun x7 H5 G6 => (((x7 : Int) = 0 → Q 0 H5 G6) ∧ (¬ ((x7 : Int) = 0) → (wS_takes_42 Q nn l5 (e3_w32 (l6 + 1)) H5 G6)))) (H 35 l6) (H (H l5 2) l6) H G)) ∧ (¬ ((l6 : Int) < (H l5 1)) → Q 1 H G)) := h
    obtain ⟨o1, h⟩ := h
    refine e3_K [0, 0, 3] 49 [(2, 34), (3, 0), (3, 0), (3, 0), (3, 0), (2, l5), (0, l6)] [(0, (H l5 1)), (0, l6)] (H) (G) (wZ L xs) (M := tbM168) rfl rfl ⟨o1, trivial⟩ ?_
    refine e3_br (M := tbM168) rfl rfl rfl Iff.rfl (fun hc => ?_) (fun hc => ?_)
    · replace h := h.1 hc
      obtain ⟨o2, o3, o4, h⟩ := h
      refine e3_K [0, 4, 0, 4, 0, 2, 0, 3, 0, 3] 71 [(2, 34), (3, 0), (3, 0), (3, 0), (3, 0), (2, l5), (0, l6)] [(0, (H (H l5 2) l6)), (0, (H 35 l6)), (2, 26)] (H) (G) (wZ L xs) (M := tbM168) rfl rfl ⟨trivial, trivial, o2, o3, o4, trivial⟩ ?_
      refine e3_call (o := 0) (k := 159) (M2 := tbM159) (f1 := 1) (w1 := 24) (as := [(2, 26), (0, (H 35 l6)), (0, (H (H l5 2) l6))]) (rest := []) (M := tbM168) rfl rfl rfl trivial (Nat.le_of_ble_eq_true rfl) (Nat.le_of_ble_eq_true rfl) (Nat.le_of_ble_eq_true rfl) ?_
      refine e3_mono (sL_isOf L xs _ _ _ _ _ h) (fun r H5 G6 h => ?_)
      obtain ⟨x7, rfl, h⟩ := h
      change e3_Ev _ _ _ _ 74 [(2, 34), (3, 0), (3, 0), (3, 0), (3, 0), (2, l5), (0, l6)] [(0, x7)] H5 G6 _
      refine e3_br (M := tbM168) rfl rfl rfl Iff.rfl (fun hc => ?_) (fun hc => ?_)
      · replace h := h.1 hc
        refine e3_K [0] 78 [(2, 34), (3, 0), (3, 0), (3, 0), (3, 0), (2, l5), (0, l6)] [(0, 0)] (H5) (G6) (wZ L xs) (M := tbM168) rfl rfl trivial ?_
        exact e3_retb (M := tbM168) rfl rfl rfl (Or.inl rfl) ⟨_, rfl, h⟩
      · replace h := h.2 hc
        refine e3_K [0, 0] 42 [(2, 34), (3, 0), (3, 0), (3, 0), (3, 0), (2, l5), (0, (e3_w32 (l6 + 1)))] [] (H5) (G6) (wZ L xs) (M := tbM168) rfl rfl trivial ?_
        exact ih _ _ _ _ h
    · replace h := h.2 hc
      refine e3_K [0] 86 [(2, 34), (3, 0), (3, 0), (3, 0), (3, 0), (2, l5), (0, l6)] [(0, 1)] (H) (G) (wZ L xs) (M := tbM168) rfl rfl trivial ?_
      exact e3_retb (M := tbM168) rfl rfl rfl (Or.inr rfl) ⟨_, rfl, h⟩
set_option maxRecDepth 100000 in
set_option maxHeartbeats 4000000 in
theorem sS_takes (L : Nat) (xs : Nat → Int32) (Q : Int → e3_H → e3_G → Prop) (l1 : Int) (l2 : Int) (l3 : Int) (l4 : Int) (H : e3_H) (G : e3_G) (h : wS_takes Q l1 l2 l3 l4 H G) : e3_Ev (wB L xs) 2 46 168 0 [(2, 34), (0, l1), (0, l2), (0, l3), (0, l4), (3, 0), (3, 0)] [] H G (e3_q0 Q) := by
  unfold wS_takes at h
  refine e3_K [0, 4, 0] 5 [(2, 34), (0, l1), (0, l2), (0, l3), (0, l4), (3, 0), (3, 0)] [(0, l1), (2, 14)] (H) (G) (wZ L xs) (M := tbM168) rfl rfl ⟨trivial, trivial⟩ ?_
  refine e3_call (o := 0) (k := 83) (M2 := tbM83) (f1 := 0) (w1 := 0) (as := [(2, 14), (0, l1)]) (rest := []) (M := tbM168) rfl rfl rfl trivial (Nat.le_of_ble_eq_true rfl) (Nat.le_of_ble_eq_true rfl) (Nat.le_of_ble_eq_true rfl) ?_
  refine e3_mono (sR_functionAt L xs _ _ _ _ h) (fun r H1 G2 h => ?_)
  obtain ⟨x3, rfl, h⟩ := h
  change e3_Ev _ _ _ _ 8 [(2, 34), (0, l1), (0, l2), (0, l3), (0, l4), (3, 0), (3, 0)] [(2, x3)] H1 G2 _
  refine e3_K [0, 0] 12 [(2, 34), (0, l1), (0, l2), (0, l3), (0, l4), (2, x3), (3, 0)] [(2, x3)] (H1) (G2) (wZ L xs) (M := tbM168) rfl rfl trivial ?_
  refine e3_br (M := tbM168) rfl rfl rfl Iff.rfl (fun hc => ?_) (fun hc => ?_)
  · replace h := h.1 hc
    refine e3_K [0] 16 [(2, 34), (0, l1), (0, l2), (0, l3), (0, l4), (2, x3), (3, 0)] [(0, 0)] (H1) (G2) (wZ L xs) (M := tbM168) rfl rfl trivial ?_
    exact e3_retb (M := tbM168) rfl rfl rfl (Or.inl rfl) ⟨_, rfl, h⟩
  · replace h := h.2 hc
    refine e3_K [0, 4, 0, 0, 2] 24 [(2, 34), (0, l1), (0, l2), (0, l3), (0, l4), (2, x3), (3, 0)] [] (e3_up H1 35 0 l2) (G2) (wZ L xs) (M := tbM168) rfl rfl ⟨trivial, ⟨by decide, by decide⟩, trivial⟩ ?_
    generalize hH4 : (e3_up H1 35 0 l2) = H4
    replace h := h H4 hH4.symm
    refine e3_K [0, 4, 0, 0, 2] 31 [(2, 34), (0, l1), (0, l2), (0, l3), (0, l4), (2, x3), (3, 0)] [] (e3_up H4 35 1 l3) (G2) (wZ L xs) (M := tbM168) rfl rfl ⟨trivial, ⟨by decide, by decide⟩, trivial⟩ ?_
    generalize hH5 : (e3_up H4 35 1 l3) = H5
    replace h := h H5 hH5.symm
    refine e3_K [0, 4, 0, 0, 2] 39 [(2, 34), (0, l1), (0, l2), (0, l3), (0, l4), (2, x3), (3, 0)] [] (e3_up H5 35 2 l4) (G2) (wZ L xs) (M := tbM168) rfl rfl ⟨trivial, ⟨by decide, by decide⟩, trivial⟩ ?_
    generalize hH6 : (e3_up H5 35 2 l4) = H6
    replace h := h H6 hH6.symm
    refine e3_K [0, 0] 42 [(2, 34), (0, l1), (0, l2), (0, l3), (0, l4), (2, x3), (0, 0)] [] (H6) (G2) (wZ L xs) (M := tbM168) rfl rfl trivial ?_
    refine e3_fgt [true, false, false, false, false, true, true] ?_
    obtain ⟨nl, h⟩ := h
    exact sS_takes_42 L xs Q nl _ _ _ _ h
/-- java/util/Arrays.fill([II)V -/
def wJ_fill_AII_5 (Q : e3_H → e3_G → Prop) : Nat → Int → Int → Int → Int → e3_H → e3_G → Prop
  | 0, _, _, _, _, _, _ => False
  | nn + 1, l0, l1, l2, l3, H, G => (((l2 : Int) < l3 → (e3_oa G 0 l0 l2) ∧ ∀ H1 : e3_H, H1 = e3_up H l0 l2 l1 → (wJ_fill_AII_5 Q nn l0 l1 (e3_w32 (l2 + 1)) l3 H1 G)) ∧ (¬ ((l2 : Int) < l3) → Q H G))
def wJ_fill_AII (Q : e3_H → e3_G → Prop) (l0 : Int) (l1 : Int) (H : e3_H) (G : e3_G) : Prop :=
  ((2 : Int) ≤ l0 ∧ e3_ln G l0 ≤ 2147483647 ∧ ∃ n, G[(l0 : Int).toNat]? = some (0, n)) ∧ (∃ n, wJ_fill_AII_5 Q n l0 l1 0 (e3_ln G l0) H G)
set_option maxRecDepth 100000 in
set_option maxHeartbeats 4000000 in
theorem sJ_fill_AII_5 (L : Nat) (xs : Nat → Int32) (Q : e3_H → e3_G → Prop) : ∀ (nl : Nat) (l0 : Int) (l1 : Int) (l2 : Int) (l3 : Int) (H : e3_H) (G : e3_G), wJ_fill_AII_5 Q nl l0 l1 l2 l3 H G → e3_Ev (wB L xs) 0 0 310 5 [(2, l0), (0, l1), (0, l2), (0, l3)] [] H G (e3_qv Q) := by
  intro nl
  induction nl with
  | zero => intro l0 l1 l2 l3 H G h; exact h.elim
  | succ nn ih =>
    intro l0 l1 l2 l3 H G h
    have h : (((l2 : Int) < l3 → (e3_oa G 0 l0 l2) ∧ ∀ H1 : e3_H, H1 = e3_up H l0 l2 l1 → (wJ_fill_AII_5 Q nn l0 l1 (e3_w32 (l2 + 1)) l3 H1 G)) ∧ (¬ ((l2 : Int) < l3) → Q H G)) := h
    refine e3_K [0, 0] 7 [(2, l0), (0, l1), (0, l2), (0, l3)] [(0, l3), (0, l2)] (H) (G) (wZ L xs) (M := tbM310) rfl rfl trivial ?_
    refine e3_br (M := tbM310) rfl rfl rfl Iff.rfl (fun hc => ?_) (fun hc => ?_)
    · replace h := h.1 hc
      obtain ⟨o2, h⟩ := h
      refine e3_K [0, 0, 0, 3] 14 [(2, l0), (0, l1), (0, l2), (0, l3)] [] (e3_up H l0 l2 l1) (G) (wZ L xs) (M := tbM310) rfl rfl ⟨o2, trivial⟩ ?_
      generalize hH1 : (e3_up H l0 l2 l1) = H1
      replace h := h H1 hH1.symm
      refine e3_K [0, 0] 5 [(2, l0), (0, l1), (0, (e3_w32 (l2 + 1))), (0, l3)] [] (H1) (G) (wZ L xs) (M := tbM310) rfl rfl trivial ?_
      exact ih _ _ _ _ _ _ h
    · replace h := h.2 hc
      exact e3_retv (M := tbM310) rfl rfl rfl ⟨rfl, h⟩
set_option maxRecDepth 100000 in
set_option maxHeartbeats 4000000 in
theorem sJ_fill_AII (L : Nat) (xs : Nat → Int32) (Q : e3_H → e3_G → Prop) (l0 : Int) (l1 : Int) (H : e3_H) (G : e3_G) (h : wJ_fill_AII Q l0 l1 H G) : e3_Ev (wB L xs) 0 0 310 0 [(2, l0), (0, l1), (3, 0), (3, 0)] [] H G (e3_qv Q) := by
  unfold wJ_fill_AII at h
  obtain ⟨o1, h⟩ := h
  refine e3_K [0, 0, 0, 3, 0] 5 [(2, l0), (0, l1), (0, 0), (0, (e3_ln G l0))] [] (H) (G) (wZ L xs) (M := tbM310) rfl rfl ⟨o1, trivial⟩ ?_
  obtain ⟨nl, h⟩ := h
  exact sJ_fill_AII_5 L xs Q nl _ _ _ _ _ _ h
/-- LetterPost$Sorter.valueAt(LLetterPost$Function;II)I -/
def wS_valueAt_25 (R : Int → Int → Int → e3_H → e3_G → (Int → e3_H → e3_G → Prop) → Prop) (Q : Int → e3_H → e3_G → Prop)  (H : e3_H) (G : e3_G) : Prop :=
  Q (-4) H G
def wS_valueAt_55 (R : Int → Int → Int → e3_H → e3_G → (Int → e3_H → e3_G → Prop) → Prop) (Q : Int → e3_H → e3_G → Prop) (s0 : Int) (H : e3_H) (G : e3_G) : Prop :=
  Q s0 H G
def wS_valueAt : Nat → Int → Int → Int → e3_H → e3_G → (Int → e3_H → e3_G → Prop) → Prop
  | 0, _, _, _, _, _, _ => False
  | n + 1, l1, l2, l3, H, G, Q => (e3_ob G 8 l1) ∧ (wF_placeNumber (fun x3 H1 G2 => (e3_ob G2 8 l1) ∧ (wF_placeUp (fun x6 H4 G5 => (((x3 : Int) < 0 → (wS_valueAt_25 (wS_valueAt n) Q H4 G5)) ∧ (¬ ((x3 : Int) < 0) → (((6 : Int) < l3 → (wS_valueAt_25 (wS_valueAt n) Q H4 G5)) ∧ (¬ ((6 : Int) < l3) → (((x6 : Int) < 0 → (((x3 : Int) < 3 → ((0 : Int) ≤ x3 ∧ (x3 : Int) < 3) ∧ (wS_valueAt_55 (wS_valueAt n) Q (H4 35 x3) H4 G5)) ∧ (¬ ((x3 : Int) < 3) → (wS_valueAt_55 (wS_valueAt n) Q (-4) H4 G5)))) ∧ (¬ ((x6 : Int) < 0) → ((wS_valueAt n) l1 x6 (e3_w32 (l3 + 1)) H4 G5 (fun x10 H8 G9 => (wL_part (fun x13 H11 G12 => Q x13 H11 G12) x10 x3 H8 G9)))))))))) l1 l2 H1 G2)) l1 l2 H G)
set_option maxRecDepth 100000 in
set_option maxHeartbeats 4000000 in
theorem sS_valueAt_25 (L : Nat) (xs : Nat → Int32) (n : Nat) (R : Int → Int → Int → e3_H → e3_G → (Int → e3_H → e3_G → Prop) → Prop) (hR : ∀ (l1 : Int) (l2 : Int) (l3 : Int) (H : e3_H) (G : e3_G) (Q : Int → e3_H → e3_G → Prop), R l1 l2 l3 H G Q → e3_Ev (wB L xs) (2 + 2 * n) (42 + 44 * n) 172 0 [(2, 34), (2, l1), (0, l2), (0, l3), (3, 0), (3, 0)] [] H G (e3_q0 Q)) (Q : Int → e3_H → e3_G → Prop)  (H : e3_H) (G : e3_G) (h : wS_valueAt_25 R Q  H G) : e3_Ev (wB L xs) (2 + 2 * (n + 1)) (42 + 44 * (n + 1)) 172 25 [(3, 0), (3, 0), (3, 0), (3, 0), (3, 0), (3, 0)] [] H G (e3_q0 Q) := by
  unfold wS_valueAt_25 at h
  refine e3_K [0] 27 [(3, 0), (3, 0), (3, 0), (3, 0), (3, 0), (3, 0)] [(0, (-4))] (H) (G) (wZ L xs) (M := tbM172) rfl rfl trivial ?_
  exact e3_reti (M := tbM172) rfl rfl rfl ⟨_, rfl, h⟩
set_option maxRecDepth 100000 in
set_option maxHeartbeats 4000000 in
theorem sS_valueAt_55 (L : Nat) (xs : Nat → Int32) (n : Nat) (R : Int → Int → Int → e3_H → e3_G → (Int → e3_H → e3_G → Prop) → Prop) (hR : ∀ (l1 : Int) (l2 : Int) (l3 : Int) (H : e3_H) (G : e3_G) (Q : Int → e3_H → e3_G → Prop), R l1 l2 l3 H G Q → e3_Ev (wB L xs) (2 + 2 * n) (42 + 44 * n) 172 0 [(2, 34), (2, l1), (0, l2), (0, l3), (3, 0), (3, 0)] [] H G (e3_q0 Q)) (Q : Int → e3_H → e3_G → Prop) (s0 : Int) (H : e3_H) (G : e3_G) (h : wS_valueAt_55 R Q s0 H G) : e3_Ev (wB L xs) (2 + 2 * (n + 1)) (42 + 44 * (n + 1)) 172 55 [(3, 0), (3, 0), (3, 0), (3, 0), (3, 0), (3, 0)] [(0, s0)] H G (e3_q0 Q) := by
  unfold wS_valueAt_55 at h
  exact e3_reti (M := tbM172) rfl rfl rfl ⟨_, rfl, h⟩
set_option maxRecDepth 100000 in
set_option maxHeartbeats 4000000 in
theorem sS_valueAt (L : Nat) (xs : Nat → Int32) : ∀ (n : Nat) (l1 : Int) (l2 : Int) (l3 : Int) (H : e3_H) (G : e3_G) (Q : Int → e3_H → e3_G → Prop), wS_valueAt n l1 l2 l3 H G Q → e3_Ev (wB L xs) (2 + 2 * n) (42 + 44 * n) 172 0 [(2, 34), (2, l1), (0, l2), (0, l3), (3, 0), (3, 0)] [] H G (e3_q0 Q) := by
  intro n
  induction n with
  | zero => intro l1 l2 l3 H G Q h; exact h.elim
  | succ n hR =>
    intro l1 l2 l3 H G Q h
    have h : (e3_ob G 8 l1) ∧ (wF_placeNumber (fun x3 H1 G2 => (e3_ob G2 8 l1) ∧ (wF_placeUp (fun x6 H4 G5 => (((x3 : Int) < 0 → (wS_valueAt_25 (wS_valueAt n) Q H4 G5)) ∧ (¬ ((x3 : Int) < 0) → (((6 : Int) < l3 → (wS_valueAt_25 (wS_valueAt n) Q H4 G5)) ∧ (¬ ((6 : Int) < l3) → (((x6 : Int) < 0 → (((x3 : Int) < 3 → ((0 : Int) ≤ x3 ∧ (x3 : Int) < 3) ∧ (wS_valueAt_55 (wS_valueAt n) Q (H4 35 x3) H4 G5)) ∧ (¬ ((x3 : Int) < 3) → (wS_valueAt_55 (wS_valueAt n) Q (-4) H4 G5)))) ∧ (¬ ((x6 : Int) < 0) → ((wS_valueAt n) l1 x6 (e3_w32 (l3 + 1)) H4 G5 (fun x10 H8 G9 => (wL_part (fun x13 H11 G12 => Q x13 H11 G12) x10 x3 H8 G9)))))))))) l1 l2 H1 G2)) l1 l2 H G) := h
    generalize hRR : wS_valueAt n = R at hR h
    refine e3_K [0, 0] 2 [(2, 34), (2, l1), (0, l2), (0, l3), (3, 0), (3, 0)] [(0, l2), (2, l1)] (H) (G) (wZ L xs) (M := tbM172) rfl rfl trivial ?_
    obtain ⟨oz, h⟩ := h
    refine e3_call (o := 1) (k := 139) (M2 := tbM139) (f1 := 0) (w1 := 0) (as := [(2, l1), (0, l2)]) (rest := []) (M := tbM172) rfl rfl rfl oz (by omega) (by show 0 + (19 + 2) ≤ (42 + 44 * (n + 1)); omega) (Nat.le_of_ble_eq_true rfl) ?_
    refine e3_mono (sF_placeNumber L xs _ _ _ _ _ h) (fun r H1 G2 h => ?_)
    obtain ⟨x3, rfl, h⟩ := h
    change e3_Ev _ _ _ _ 5 [(2, 34), (2, l1), (0, l2), (0, l3), (3, 0), (3, 0)] [(0, x3)] H1 G2 _
    refine e3_K [0, 0, 0] 9 [(2, 34), (2, l1), (0, l2), (0, l3), (0, x3), (3, 0)] [(0, l2), (2, l1)] (H1) (G2) (wZ L xs) (M := tbM172) rfl rfl trivial ?_
    obtain ⟨oz, h⟩ := h
    refine e3_call (o := 1) (k := 107) (M2 := tbM107) (f1 := 0) (w1 := 0) (as := [(2, l1), (0, l2)]) (rest := []) (M := tbM172) rfl rfl rfl oz (by omega) (by show 0 + (19 + 2) ≤ (42 + 44 * (n + 1)); omega) (Nat.le_of_ble_eq_true rfl) ?_
    refine e3_mono (sF_placeUp L xs _ _ _ _ _ h) (fun r H4 G5 h => ?_)
    obtain ⟨x6, rfl, h⟩ := h
    change e3_Ev _ _ _ _ 12 [(2, 34), (2, l1), (0, l2), (0, l3), (0, x3), (3, 0)] [(0, x6)] H4 G5 _
    refine e3_K [0, 0] 16 [(2, 34), (2, l1), (0, l2), (0, l3), (0, x3), (0, x6)] [(0, x3)] (H4) (G5) (wZ L xs) (M := tbM172) rfl rfl trivial ?_
    refine e3_br (M := tbM172) rfl rfl rfl Iff.rfl (fun hc => ?_) (fun hc => ?_)
    · replace h := h.1 hc
      refine e3_fgt [false, false, false, false, false, false] ?_
      exact sS_valueAt_25 L xs n R hR Q _ _ h
    · replace h := h.2 hc
      refine e3_K [0, 0] 22 [(2, 34), (2, l1), (0, l2), (0, l3), (0, x3), (0, x6)] [(0, 6), (0, l3)] (H4) (G5) (wZ L xs) (M := tbM172) rfl rfl trivial ?_
      refine e3_br (M := tbM172) rfl rfl rfl Iff.rfl (fun hc => ?_) (fun hc => ?_)
      · replace h := h.1 hc
        refine e3_fgt [false, false, false, false, false, false] ?_
        exact sS_valueAt_25 L xs n R hR Q _ _ h
      · replace h := h.2 hc
        refine e3_K [0] 30 [(2, 34), (2, l1), (0, l2), (0, l3), (0, x3), (0, x6)] [(0, x6)] (H4) (G5) (wZ L xs) (M := tbM172) rfl rfl trivial ?_
        refine e3_br (M := tbM172) rfl rfl rfl Iff.rfl (fun hc => ?_) (fun hc => ?_)
        · replace h := h.1 hc
          refine e3_K [0, 0, 4, 2] 40 [(2, 34), (2, l1), (0, l2), (0, l3), (0, x3), (0, x6)] [(0, 3), (0, x3)] (H4) (G5) (wZ L xs) (M := tbM172) rfl rfl ⟨trivial, (by decide), trivial⟩ ?_
          refine e3_br (M := tbM172) rfl rfl rfl Iff.rfl (fun hc => ?_) (fun hc => ?_)
          · replace h := h.1 hc
            obtain ⟨o7, h⟩ := h
            refine e3_K [0, 4, 0, 2, 0] 55 [(2, 34), (2, l1), (0, l2), (0, l3), (0, x3), (0, x6)] [(0, (H4 35 x3))] (H4) (G5) (wZ L xs) (M := tbM172) rfl rfl ⟨trivial, o7, trivial⟩ ?_
            refine e3_fgt [false, false, false, false, false, false] ?_
            exact sS_valueAt_55 L xs n R hR Q _ _ _ h
          · replace h := h.2 hc
            refine e3_K [0] 55 [(2, 34), (2, l1), (0, l2), (0, l3), (0, x3), (0, x6)] [(0, (-4))] (H4) (G5) (wZ L xs) (M := tbM172) rfl rfl trivial ?_
            refine e3_fgt [false, false, false, false, false, false] ?_
            exact sS_valueAt_55 L xs n R hR Q _ _ _ h
        · replace h := h.2 hc
          refine e3_K [0, 4, 0, 0, 0, 0, 0, 0] 67 [(2, 34), (2, l1), (0, l2), (0, l3), (0, x3), (0, x6)] [(0, (e3_w32 (l3 + 1))), (0, x6), (2, l1), (2, 34), (2, 26)] (H4) (G5) (wZ L xs) (M := tbM172) rfl rfl ⟨trivial, trivial⟩ ?_
          refine e3_call (o := 0) (k := 172) (M2 := tbM172) (f1 := (2 + 2 * n)) (w1 := (42 + 44 * n)) (as := [(2, 34), (2, l1), (0, x6), (0, (e3_w32 (l3 + 1)))]) (rest := [(2, 26)]) (M := tbM172) rfl rfl rfl trivial (by omega) (by show (42 + 44 * n) + (19 + 6) ≤ (42 + 44 * (n + 1)); omega) (Nat.le_of_ble_eq_true rfl) ?_
          refine e3_mono (hR _ _ _ _ _ _ h) (fun r H8 G9 h => ?_)
          obtain ⟨x10, rfl, h⟩ := h
          change e3_Ev _ _ _ _ 70 [(2, 34), (2, l1), (0, l2), (0, l3), (0, x3), (0, x6)] [(0, x10), (2, 26)] H8 G9 _
          refine e3_K [0] 72 [(2, 34), (2, l1), (0, l2), (0, l3), (0, x3), (0, x6)] [(0, x3), (0, x10), (2, 26)] (H8) (G9) (wZ L xs) (M := tbM172) rfl rfl trivial ?_
          refine e3_call (o := 0) (k := 165) (M2 := tbM165) (f1 := 0) (w1 := 0) (as := [(2, 26), (0, x10), (0, x3)]) (rest := []) (M := tbM172) rfl rfl rfl trivial (by omega) (by show 0 + (19 + 4) ≤ (42 + 44 * (n + 1)); omega) (Nat.le_of_ble_eq_true rfl) ?_
          refine e3_mono (sL_part L xs _ _ _ _ _ h) (fun r H11 G12 h => ?_)
          obtain ⟨x13, rfl, h⟩ := h
          change e3_Ev _ _ _ _ 75 [(2, 34), (2, l1), (0, l2), (0, l3), (0, x3), (0, x6)] [(0, x13)] H11 G12 _
          exact e3_reti (M := tbM172) rfl rfl rfl ⟨_, rfl, h⟩
