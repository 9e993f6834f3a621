/-- LetterPostModel.readFunction()V -/
def wM_readFunction_233 (Q : e3_H → e3_G → Prop)  (H : e3_H) (G : e3_G) : Prop :=
  (wM_must (fun H1 G2 => Q H1 G2) 125 H G)
def wM_readFunction_209 (Q : e3_H → e3_G → Prop) : Nat → Int → e3_H → e3_G → Prop
  | 0, _, _, _ => False
  | nn + 1, l1, H, G => ((((H 40 7) : Int) = 0 → (wM_isSign (fun x3 H1 G2 => (((x3 : Int) = 0 → (wM_readRule (fun H4 G5 => (wM_readFunction_209 Q nn l1 H4 G5)) l1 H1 G2)) ∧ (¬ ((x3 : Int) = 0) → (wM_readFunction_233 Q H1 G2)))) 125 H G)) ∧ (¬ (((H 40 7) : Int) = 0) → (wM_readFunction_233 Q H G)))
def wM_readFunction_197 (Q : e3_H → e3_G → Prop) (l1 : Int) (H : e3_H) (G : e3_G) : Prop :=
  (wM_must (fun H1 G2 => (wM_must (fun H4 G5 => (∃ n, wM_readFunction_209 Q n l1 H4 G5)) 123 H1 G2)) 41 H G)
def wM_readFunction_187 (Q : e3_H → e3_G → Prop) (k123 : Int → Int → e3_H → e3_G → Prop) (l1 : Int) (H : e3_H) (G : e3_G) : Prop :=
  (wM_takes (fun x3 H1 G2 => (k123 l1 x3 H1 G2)) 44 H G)
def wM_readFunction_150 (Q : e3_H → e3_G → Prop) (k123 : Int → Int → e3_H → e3_G → Prop) (l1 : Int) (s0 : Int) (H : e3_H) (G : e3_G) : Prop :=
  (wM_readSort (fun x3 H1 G2 => ((((H1 40 7) : Int) = 0 → ((0 : Int) ≤ l1 ∧ (l1 : Int) < 12) ∧ ((0 : Int) ≤ (e3_w32 ((e3_w32 (3 * l1)) + (H1 68 l1))) ∧ ((e3_w32 ((e3_w32 (3 * l1)) + (H1 68 l1))) : Int) < 36) ∧ ∀ H4 : e3_H, H4 = e3_up H1 69 (e3_w32 ((e3_w32 (3 * l1)) + (H1 68 l1))) x3 → ((0 : Int) ≤ l1 ∧ (l1 : Int) < 12) ∧ ((0 : Int) ≤ l1 ∧ (l1 : Int) < 12) ∧ ∀ H7 : e3_H, H7 = e3_up H4 68 l1 (e3_w32 ((H4 68 l1) + 1)) → (wM_readFunction_187 Q k123 l1 H7 G2)) ∧ (¬ (((H1 40 7) : Int) = 0) → (wM_readFunction_187 Q k123 l1 H1 G2)))) s0 H G)
def wM_readFunction_123 (Q : e3_H → e3_G → Prop) : Nat → Int → Int → e3_H → e3_G → Prop
  | 0, _, _, _, _ => False
  | nn + 1, l1, l2, H, G => (((l2 : Int) = 0 → (wM_readFunction_197 Q l1 H G)) ∧ (¬ ((l2 : Int) = 0) → ((((H 40 7) : Int) = 0 → ((0 : Int) ≤ l1 ∧ (l1 : Int) < 12) ∧ ((((H 68 l1) : Int) = 3 → (wM_readFunction_150 Q (fun l1 l2 H G => wM_readFunction_123 Q nn l1 l2 H G) l1 1 H G)) ∧ (¬ (((H 68 l1) : Int) = 3) → (wM_readFunction_150 Q (fun l1 l2 H G => wM_readFunction_123 Q nn l1 l2 H G) l1 0 H G)))) ∧ (¬ (((H 40 7) : Int) = 0) → (wM_readFunction_197 Q l1 H G)))))
def wM_readFunction_64 (Q : e3_H → e3_G → Prop)  (H : e3_H) (G : e3_G) : Prop :=
  ((((H 40 7) : Int) = 0 → ∀ H1 : e3_H, H1 = e3_up H 40 41 (e3_w32 ((H 40 41) + 1)) → ((0 : Int) ≤ (H 40 41) ∧ ((H 40 41) : Int) < 12) ∧ ∀ H2 : e3_H, H2 = e3_up H1 67 (H 40 41) (H1 40 4) → ((0 : Int) ≤ (H 40 41) ∧ ((H 40 41) : Int) < 12) ∧ ∀ H4 : e3_H, H4 = e3_up H2 68 (H 40 41) 0 → ((0 : Int) ≤ (H 40 41) ∧ ((H 40 41) : Int) < 12) ∧ ∀ H6 : e3_H, H6 = e3_up H4 70 (H 40 41) 0 → (wM_next (fun H8 G9 => (wM_must (fun H11 G12 => (∃ n, wM_readFunction_123 Q n (H 40 41) 1 H11 G12)) 40 H8 G9)) H6 G)) ∧ (¬ (((H 40 7) : Int) = 0) → Q H G))
def wM_readFunction (Q : e3_H → e3_G → Prop)  (H : e3_H) (G : e3_G) : Prop :=
  (wM_next (fun H1 G2 => ((((H1 40 3) : Int) = 1 → (wM_functionOf (fun x6 H4 G5 => (((x6 : Int) = (-4) → ((((H4 40 41) : Int) = 12 → (wM_fails (fun H7 G8 => (wM_readFunction_64 Q H7 G8)) 9 (H4 40 5) H4 G5)) ∧ (¬ (((H4 40 41) : Int) = 12) → (wM_readFunction_64 Q H4 G5)))) ∧ (¬ ((x6 : Int) = (-4)) → (wM_fails (fun H10 G11 => (wM_readFunction_64 Q H10 G11)) 3 (H4 40 5) H4 G5)))) (H1 40 4) H1 G2)) ∧ (¬ (((H1 40 3) : Int) = 1) → (wM_stop (fun H13 G14 => (wM_readFunction_64 Q H13 G14)) 2 H1 G2)))) H G)
set_option maxRecDepth 100000 in
set_option maxHeartbeats 4000000 in
theorem sM_readFunction_233 (L : Nat) (xs : Nat → Int32) (Q : e3_H → e3_G → Prop)  (H : e3_H) (G : e3_G) (h : wM_readFunction_233 Q  H G) : e3_Ev (wB L xs) 10 236 218 233 [(2, 40), (3, 0), (3, 0), (3, 0)] [] H G (e3_qv Q) := by
  unfold wM_readFunction_233 at h
  refine e3_K [0, 0] 236 [(2, 40), (3, 0), (3, 0), (3, 0)] [(0, 125), (2, 40)] (H) (G) (wZ L xs) (M := tbM218) rfl rfl trivial ?_
  refine e3_call (o := 0) (k := 217) (M2 := tbM217) (f1 := 5) (w1 := 111) (as := [(2, 40), (0, 125)]) (rest := []) (M := tbM218) rfl rfl rfl trivial (Nat.le_of_ble_eq_true rfl) (Nat.le_of_ble_eq_true rfl) (Nat.le_of_ble_eq_true rfl) ?_
  refine e3_mono (sM_must L xs _ _ _ _ h) (fun r H1 G2 h => ?_)
  obtain ⟨rfl, h⟩ := h
  change e3_Ev _ _ _ _ 239 [(2, 40), (3, 0), (3, 0), (3, 0)] [] H1 G2 _
  exact e3_retv (M := tbM218) rfl rfl rfl ⟨rfl, h⟩
set_option maxRecDepth 100000 in
set_option maxHeartbeats 4000000 in
theorem sM_readFunction_209 (L : Nat) (xs : Nat → Int32) (Q : e3_H → e3_G → Prop) : ∀ (nl : Nat) (l1 : Int) (H : e3_H) (G : e3_G), wM_readFunction_209 Q nl l1 H G → e3_Ev (wB L xs) 10 236 218 209 [(2, 40), (0, l1), (3, 0), (3, 0)] [] H G (e3_qv Q) := by
  intro nl
  induction nl with
  | zero => intro l1 H G h; exact h.elim
  | succ nn ih =>
    intro l1 H G h
    have h : ((((H 40 7) : Int) = 0 → (wM_isSign (fun x3 H1 G2 => (((x3 : Int) = 0 → (wM_readRule (fun H4 G5 => (wM_readFunction_209 Q nn l1 H4 G5)) l1 H1 G2)) ∧ (¬ ((x3 : Int) = 0) → (wM_readFunction_233 Q H1 G2)))) 125 H G)) ∧ (¬ (((H 40 7) : Int) = 0) → (wM_readFunction_233 Q H G))) := h
    refine e3_K [0, 2] 213 [(2, 40), (0, l1), (3, 0), (3, 0)] [(0, (H 40 7))] (H) (G) (wZ L xs) (M := tbM218) rfl rfl ⟨trivial, trivial⟩ ?_
    refine e3_br (M := tbM218) rfl rfl rfl Iff.rfl (fun hc => ?_) (fun hc => ?_)
    · replace h := h.1 hc
      refine e3_K [0, 0] 219 [(2, 40), (0, l1), (3, 0), (3, 0)] [(0, 125), (2, 40)] (H) (G) (wZ L xs) (M := tbM218) rfl rfl trivial ?_
      refine e3_call (o := 0) (k := 215) (M2 := tbM215) (f1 := 0) (w1 := 0) (as := [(2, 40), (0, 125)]) (rest := []) (M := tbM218) rfl rfl rfl trivial (Nat.le_of_ble_eq_true rfl) (Nat.le_of_ble_eq_true rfl) (Nat.le_of_ble_eq_true rfl) ?_
      refine e3_mono (sM_isSign L xs _ _ _ _ h) (fun r H1 G2 h => ?_)
      obtain ⟨x3, rfl, h⟩ := h
      change e3_Ev _ _ _ _ 222 [(2, 40), (0, l1), (3, 0), (3, 0)] [(0, x3)] H1 G2 _
      refine e3_br (M := tbM218) rfl rfl rfl Iff.rfl (fun hc => ?_) (fun hc => ?_)
      · replace h := h.1 hc
        refine e3_K [0, 0] 227 [(2, 40), (0, l1), (3, 0), (3, 0)] [(0, l1), (2, 40)] (H1) (G2) (wZ L xs) (M := tbM218) rfl rfl trivial ?_
        refine e3_call (o := 0) (k := 220) (M2 := tbM220) (f1 := 9) (w1 := 210) (as := [(2, 40), (0, l1)]) (rest := []) (M := tbM218) rfl rfl rfl trivial (Nat.le_of_ble_eq_true rfl) (Nat.le_of_ble_eq_true rfl) (Nat.le_of_ble_eq_true rfl) ?_
        refine e3_mono (sM_readRule L xs _ _ _ _ h) (fun r H4 G5 h => ?_)
        obtain ⟨rfl, h⟩ := h
        change e3_Ev _ _ _ _ 230 [(2, 40), (0, l1), (3, 0), (3, 0)] [] H4 G5 _
        refine e3_K [0] 209 [(2, 40), (0, l1), (3, 0), (3, 0)] [] (H4) (G5) (wZ L xs) (M := tbM218) rfl rfl trivial ?_
        exact ih _ _ _ h
      · replace h := h.2 hc
        refine e3_fgt [true, false, false, false] ?_
        exact sM_readFunction_233 L xs Q _ _ h
    · replace h := h.2 hc
      refine e3_fgt [true, false, false, false] ?_
      exact sM_readFunction_233 L xs Q _ _ h
set_option maxRecDepth 100000 in
set_option maxHeartbeats 4000000 in
theorem sM_readFunction_197 (L : Nat) (xs : Nat → Int32) (Q : e3_H → e3_G → Prop) (l1 : Int) (H : e3_H) (G : e3_G) (h : wM_readFunction_197 Q l1 H G) : e3_Ev (wB L xs) 10 236 218 197 [(2, 40), (0, l1), (3, 0), (3, 0)] [] H G (e3_qv Q) := by
  unfold wM_readFunction_197 at h
  refine e3_K [0, 0] 200 [(2, 40), (0, l1), (3, 0), (3, 0)] [(0, 41), (2, 40)] (H) (G) (wZ L xs) (M := tbM218) rfl rfl trivial ?_
  refine e3_call (o := 0) (k := 217) (M2 := tbM217) (f1 := 5) (w1 := 111) (as := [(2, 40), (0, 41)]) (rest := []) (M := tbM218) rfl rfl rfl trivial (Nat.le_of_ble_eq_true rfl) (Nat.le_of_ble_eq_true rfl) (Nat.le_of_ble_eq_true rfl) ?_
  refine e3_mono (sM_must L xs _ _ _ _ h) (fun r H1 G2 h => ?_)
  obtain ⟨rfl, h⟩ := h
  change e3_Ev _ _ _ _ 203 [(2, 40), (0, l1), (3, 0), (3, 0)] [] H1 G2 _
  refine e3_K [0, 0] 206 [(2, 40), (0, l1), (3, 0), (3, 0)] [(0, 123), (2, 40)] (H1) (G2) (wZ L xs) (M := tbM218) rfl rfl trivial ?_
  refine e3_call (o := 0) (k := 217) (M2 := tbM217) (f1 := 5) (w1 := 111) (as := [(2, 40), (0, 123)]) (rest := []) (M := tbM218) rfl rfl rfl trivial (Nat.le_of_ble_eq_true rfl) (Nat.le_of_ble_eq_true rfl) (Nat.le_of_ble_eq_true rfl) ?_
  refine e3_mono (sM_must L xs _ _ _ _ h) (fun r H4 G5 h => ?_)
  obtain ⟨rfl, h⟩ := h
  change e3_Ev _ _ _ _ 209 [(2, 40), (0, l1), (3, 0), (3, 0)] [] H4 G5 _
  obtain ⟨nl, h⟩ := h
  exact sM_readFunction_209 L xs Q nl _ _ _ h
set_option maxRecDepth 100000 in
set_option maxHeartbeats 4000000 in
theorem sM_readFunction_187 (L : Nat) (xs : Nat → Int32) (Q : e3_H → e3_G → Prop) (k123 : Int → Int → e3_H → e3_G → Prop) (hk123 : ∀ (l1 : Int) (l2 : Int) (H : e3_H) (G : e3_G), k123 l1 l2 H G → e3_Ev (wB L xs) 10 236 218 123 [(2, 40), (0, l1), (0, l2), (3, 0)] [] H G (e3_qv Q)) (l1 : Int) (H : e3_H) (G : e3_G) (h : wM_readFunction_187 Q k123 l1 H G) : e3_Ev (wB L xs) 10 236 218 187 [(2, 40), (0, l1), (3, 0), (3, 0)] [] H G (e3_qv Q) := by
  unfold wM_readFunction_187 at h
  refine e3_K [0, 0] 190 [(2, 40), (0, l1), (3, 0), (3, 0)] [(0, 44), (2, 40)] (H) (G) (wZ L xs) (M := tbM218) rfl rfl trivial ?_
  refine e3_call (o := 0) (k := 214) (M2 := tbM214) (f1 := 4) (w1 := 89) (as := [(2, 40), (0, 44)]) (rest := []) (M := tbM218) rfl rfl rfl trivial (Nat.le_of_ble_eq_true rfl) (Nat.le_of_ble_eq_true rfl) (Nat.le_of_ble_eq_true rfl) ?_
  refine e3_mono (sM_takes L xs _ _ _ _ h) (fun r H1 G2 h => ?_)
  obtain ⟨x3, rfl, h⟩ := h
  change e3_Ev _ _ _ _ 193 [(2, 40), (0, l1), (3, 0), (3, 0)] [(0, x3)] H1 G2 _
  refine e3_K [0, 0] 123 [(2, 40), (0, l1), (0, x3), (3, 0)] [] (H1) (G2) (wZ L xs) (M := tbM218) rfl rfl trivial ?_
  exact hk123 _ _ _ _ h
set_option maxRecDepth 100000 in
set_option maxHeartbeats 4000000 in
theorem sM_readFunction_150 (L : Nat) (xs : Nat → Int32) (Q : e3_H → e3_G → Prop) (k123 : Int → Int → e3_H → e3_G → Prop) (hk123 : ∀ (l1 : Int) (l2 : Int) (H : e3_H) (G : e3_G), k123 l1 l2 H G → e3_Ev (wB L xs) 10 236 218 123 [(2, 40), (0, l1), (0, l2), (3, 0)] [] H G (e3_qv Q)) (l1 : Int) (s0 : Int) (H : e3_H) (G : e3_G) (h : wM_readFunction_150 Q k123 l1 s0 H G) : e3_Ev (wB L xs) 10 236 218 150 [(2, 40), (0, l1), (3, 0), (3, 0)] [(0, s0), (2, 40)] H G (e3_qv Q) := by
  unfold wM_readFunction_150 at h
  refine e3_call (o := 0) (k := 216) (M2 := tbM216) (f1 := 4) (w1 := 89) (as := [(2, 40), (0, s0)]) (rest := []) (M := tbM218) rfl rfl rfl trivial (Nat.le_of_ble_eq_true rfl) (Nat.le_of_ble_eq_true rfl) (Nat.le_of_ble_eq_true rfl) ?_
  refine e3_mono (sM_readSort L xs _ _ _ _ h) (fun r H1 G2 h => ?_)
  obtain ⟨x3, rfl, h⟩ := h
  change e3_Ev _ _ _ _ 153 [(2, 40), (0, l1), (3, 0), (3, 0)] [(0, x3)] H1 G2 _
  refine e3_K [0, 0, 2] 158 [(2, 40), (0, l1), (3, 0), (0, x3)] [(0, (H1 40 7))] (H1) (G2) (wZ L xs) (M := tbM218) rfl rfl ⟨trivial, trivial⟩ ?_
  refine e3_br (M := tbM218) rfl rfl rfl Iff.rfl (fun hc => ?_) (fun hc => ?_)
  · replace h := h.1 hc
    obtain ⟨o5, o6, h⟩ := h
    refine e3_K [0, 4, 0, 0, 0, 0, 4, 0, 2, 0, 0, 2] 177 [(2, 40), (0, l1), (3, 0), (0, x3)] [] (e3_up H1 69 (e3_w32 ((e3_w32 (3 * l1)) + (H1 68 l1))) x3) (G2) (wZ L xs) (M := tbM218) rfl rfl ⟨trivial, trivial, o5, o6, trivial⟩ ?_
    generalize hH4 : (e3_up H1 69 (e3_w32 ((e3_w32 (3 * l1)) + (H1 68 l1))) x3) = H4
    replace h := h H4 hH4.symm
    obtain ⟨o8, o9, h⟩ := h
    refine e3_K [0, 4, 0, 0, 2, 0, 0, 2] 187 [(2, 40), (0, l1), (3, 0), (0, x3)] [] (e3_up H4 68 l1 (e3_w32 ((H4 68 l1) + 1))) (G2) (wZ L xs) (M := tbM218) rfl rfl ⟨trivial, o8, o9, trivial⟩ ?_
    generalize hH7 : (e3_up H4 68 l1 (e3_w32 ((H4 68 l1) + 1))) = H7
    replace h := h H7 hH7.symm
    refine e3_fgt [true, true, false, false] ?_
    exact sM_readFunction_187 L xs Q k123 hk123 _ _ _ h
  · replace h := h.2 hc
    refine e3_fgt [true, true, false, false] ?_
    exact sM_readFunction_187 L xs Q k123 hk123 _ _ _ h
set_option maxRecDepth 100000 in
set_option maxHeartbeats 4000000 in
theorem sM_readFunction_123 (L : Nat) (xs : Nat → Int32) (Q : e3_H → e3_G → Prop) : ∀ (nl : Nat) (l1 : Int) (l2 : Int) (H : e3_H) (G : e3_G), wM_readFunction_123 Q nl l1 l2 H G → e3_Ev (wB L xs) 10 236 218 123 [(2, 40), (0, l1), (0, l2), (3, 0)] [] H G (e3_qv Q) := by
  intro nl
  induction nl with
  | zero => intro l1 l2 H G h; exact h.elim
  | succ nn ih =>
    intro l1 l2 H G h
    have h : (((l2 : Int) = 0 → (wM_readFunction_197 Q l1 H G)) ∧ (¬ ((l2 : Int) = 0) → ((((H 40 7) : Int) = 0 → ((0 : Int) ≤ l1 ∧ (l1 : Int) < 12) ∧ ((((H 68 l1) : Int) = 3 → (wM_readFunction_150 Q (fun l1 l2 H G => wM_readFunction_123 Q nn l1 l2 H G) l1 1 H G)) ∧ (¬ (((H 68 l1) : Int) = 3) → (wM_readFunction_150 Q (fun l1 l2 H G => wM_readFunction_123 Q nn l1 l2 H G) l1 0 H G)))) ∧ (¬ (((H 40 7) : Int) = 0) → (wM_readFunction_197 Q l1 H G))))) := h
    refine e3_K [0] 124 [(2, 40), (0, l1), (0, l2), (3, 0)] [(0, l2)] (H) (G) (wZ L xs) (M := tbM218) rfl rfl trivial ?_
    refine e3_br (M := tbM218) rfl rfl rfl Iff.rfl (fun hc => ?_) (fun hc => ?_)
    · replace h := h.1 hc
      refine e3_fgt [true, true, false, false] ?_
      exact sM_readFunction_197 L xs Q _ _ _ h
    · replace h := h.2 hc
      refine e3_K [0, 2] 131 [(2, 40), (0, l1), (0, l2), (3, 0)] [(0, (H 40 7))] (H) (G) (wZ L xs) (M := tbM218) rfl rfl ⟨trivial, trivial⟩ ?_
      refine e3_br (M := tbM218) rfl rfl rfl Iff.rfl (fun hc => ?_) (fun hc => ?_)
      · replace h := h.1 hc
        obtain ⟨o1, h⟩ := h
        refine e3_K [0, 0, 4, 0, 2, 0] 142 [(2, 40), (0, l1), (0, l2), (3, 0)] [(0, 3), (0, (H 68 l1)), (2, 40)] (H) (G) (wZ L xs) (M := tbM218) rfl rfl ⟨trivial, o1, trivial⟩ ?_
        refine e3_br (M := tbM218) rfl rfl rfl Iff.rfl (fun hc => ?_) (fun hc => ?_)
        · replace h := h.1 hc
          refine e3_K [0, 0] 150 [(2, 40), (0, l1), (0, l2), (3, 0)] [(0, 1), (2, 40)] (H) (G) (wZ L xs) (M := tbM218) rfl rfl trivial ?_
          refine e3_fgt [true, true, false, false] ?_
          exact sM_readFunction_150 L xs Q (fun l1 l2 H G => wM_readFunction_123 Q nn l1 l2 H G) ih _ _ _ _ h
        · replace h := h.2 hc
          refine e3_K [0] 150 [(2, 40), (0, l1), (0, l2), (3, 0)] [(0, 0), (2, 40)] (H) (G) (wZ L xs) (M := tbM218) rfl rfl trivial ?_
          refine e3_fgt [true, true, false, false] ?_
          exact sM_readFunction_150 L xs Q (fun l1 l2 H G => wM_readFunction_123 Q nn l1 l2 H G) ih _ _ _ _ h
      · replace h := h.2 hc
        refine e3_fgt [true, true, false, false] ?_
        exact sM_readFunction_197 L xs Q _ _ _ h
set_option maxRecDepth 100000 in
set_option maxHeartbeats 4000000 in
theorem sM_readFunction_64 (L : Nat) (xs : Nat → Int32) (Q : e3_H → e3_G → Prop)  (H : e3_H) (G : e3_G) (h : wM_readFunction_64 Q  H G) : e3_Ev (wB L xs) 10 236 218 64 [(2, 40), (3, 0), (3, 0), (3, 0)] [] H G (e3_qv Q) := by
  unfold wM_readFunction_64 at h
  refine e3_K [0, 2] 68 [(2, 40), (3, 0), (3, 0), (3, 0)] [(0, (H 40 7))] (H) (G) (wZ L xs) (M := tbM218) rfl rfl ⟨trivial, trivial⟩ ?_
  refine e3_br (M := tbM218) rfl rfl rfl Iff.rfl (fun hc => ?_) (fun hc => ?_)
  · replace h := h.1 hc
    refine e3_K [0, 2, 0, 0, 0, 2, 0, 0, 2] 87 [(2, 40), (0, (H 40 41)), (3, 0), (3, 0)] [] (e3_up H 40 41 (e3_w32 ((H 40 41) + 1))) (G) (wZ L xs) (M := tbM218) rfl rfl ⟨trivial, trivial, trivial, trivial⟩ ?_
    generalize hH1 : (e3_up H 40 41 (e3_w32 ((H 40 41) + 1))) = H1
    replace h := h H1 hH1.symm
    obtain ⟨o3, h⟩ := h
    refine e3_K [0, 4, 0, 0, 2, 2] 97 [(2, 40), (0, (H 40 41)), (3, 0), (3, 0)] [] (e3_up H1 67 (H 40 41) (H1 40 4)) (G) (wZ L xs) (M := tbM218) rfl rfl ⟨trivial, trivial, o3, trivial⟩ ?_
    generalize hH2 : (e3_up H1 67 (H 40 41) (H1 40 4)) = H2
    replace h := h H2 hH2.symm
    obtain ⟨o5, h⟩ := h
    refine e3_K [0, 4, 0, 0, 2] 104 [(2, 40), (0, (H 40 41)), (3, 0), (3, 0)] [] (e3_up H2 68 (H 40 41) 0) (G) (wZ L xs) (M := tbM218) rfl rfl ⟨trivial, o5, trivial⟩ ?_
    generalize hH4 : (e3_up H2 68 (H 40 41) 0) = H4
    replace h := h H4 hH4.symm
    obtain ⟨o7, h⟩ := h
    refine e3_K [0, 4, 0, 0, 2] 111 [(2, 40), (0, (H 40 41)), (3, 0), (3, 0)] [] (e3_up H4 70 (H 40 41) 0) (G) (wZ L xs) (M := tbM218) rfl rfl ⟨trivial, o7, trivial⟩ ?_
    generalize hH6 : (e3_up H4 70 (H 40 41) 0) = H6
    replace h := h H6 hH6.symm
    refine e3_K [0] 112 [(2, 40), (0, (H 40 41)), (3, 0), (3, 0)] [(2, 40)] (H6) (G) (wZ L xs) (M := tbM218) rfl rfl trivial ?_
    refine e3_call (o := 0) (k := 201) (M2 := tbM201) (f1 := 3) (w1 := 67) (as := [(2, 40)]) (rest := []) (M := tbM218) rfl rfl rfl trivial (Nat.le_of_ble_eq_true rfl) (Nat.le_of_ble_eq_true rfl) (Nat.le_of_ble_eq_true rfl) ?_
    refine e3_mono (sM_next L xs _ _ _ h) (fun r H8 G9 h => ?_)
    obtain ⟨rfl, h⟩ := h
    change e3_Ev _ _ _ _ 115 [(2, 40), (0, (H 40 41)), (3, 0), (3, 0)] [] H8 G9 _
    refine e3_K [0, 0] 118 [(2, 40), (0, (H 40 41)), (3, 0), (3, 0)] [(0, 40), (2, 40)] (H8) (G9) (wZ L xs) (M := tbM218) rfl rfl trivial ?_
    refine e3_call (o := 0) (k := 217) (M2 := tbM217) (f1 := 5) (w1 := 111) (as := [(2, 40), (0, 40)]) (rest := []) (M := tbM218) rfl rfl rfl trivial (Nat.le_of_ble_eq_true rfl) (Nat.le_of_ble_eq_true rfl) (Nat.le_of_ble_eq_true rfl) ?_
    refine e3_mono (sM_must L xs _ _ _ _ h) (fun r H11 G12 h => ?_)
    obtain ⟨rfl, h⟩ := h
    change e3_Ev _ _ _ _ 121 [(2, 40), (0, (H 40 41)), (3, 0), (3, 0)] [] H11 G12 _
    refine e3_K [0, 0] 123 [(2, 40), (0, (H 40 41)), (0, 1), (3, 0)] [] (H11) (G12) (wZ L xs) (M := tbM218) rfl rfl trivial ?_
    obtain ⟨nl, h⟩ := h
    exact sM_readFunction_123 L xs Q nl _ _ _ _ h
  · replace h := h.2 hc
    exact e3_retv (M := tbM218) rfl rfl rfl ⟨rfl, h⟩
set_option maxRecDepth 100000 in
set_option maxHeartbeats 4000000 in
theorem sM_readFunction (L : Nat) (xs : Nat → Int32) (Q : e3_H → e3_G → Prop)  (H : e3_H) (G : e3_G) (h : wM_readFunction Q  H G) : e3_Ev (wB L xs) 10 236 218 0 [(2, 40), (3, 0), (3, 0), (3, 0)] [] H G (e3_qv Q) := by
  unfold wM_readFunction at h
  refine e3_K [0] 1 [(2, 40), (3, 0), (3, 0), (3, 0)] [(2, 40)] (H) (G) (wZ L xs) (M := tbM218) rfl rfl trivial ?_
  refine e3_call (o := 0) (k := 201) (M2 := tbM201) (f1 := 3) (w1 := 67) (as := [(2, 40)]) (rest := []) (M := tbM218) rfl rfl rfl trivial (Nat.le_of_ble_eq_true rfl) (Nat.le_of_ble_eq_true rfl) (Nat.le_of_ble_eq_true rfl) ?_
  refine e3_mono (sM_next L xs _ _ _ h) (fun r H1 G2 h => ?_)
  obtain ⟨rfl, h⟩ := h
  change e3_Ev _ _ _ _ 4 [(2, 40), (3, 0), (3, 0), (3, 0)] [] H1 G2 _
  refine e3_K [0, 2, 0] 9 [(2, 40), (3, 0), (3, 0), (3, 0)] [(0, 1), (0, (H1 40 3))] (H1) (G2) (wZ L xs) (M := tbM218) rfl rfl ⟨trivial, trivial⟩ ?_
  refine e3_br (M := tbM218) rfl rfl rfl Iff.rfl (fun hc => ?_) (fun hc => ?_)
  · replace h := h.1 hc
    refine e3_K [0, 0, 2] 25 [(2, 40), (3, 0), (3, 0), (3, 0)] [(1, (H1 40 4)), (2, 40)] (H1) (G2) (wZ L xs) (M := tbM218) rfl rfl ⟨trivial, trivial⟩ ?_
    refine e3_call (o := 0) (k := 219) (M2 := tbM219) (f1 := 0) (w1 := 0) (as := [(2, 40), (1, (H1 40 4))]) (rest := []) (M := tbM218) rfl rfl rfl trivial (Nat.le_of_ble_eq_true rfl) (Nat.le_of_ble_eq_true rfl) (Nat.le_of_ble_eq_true rfl) ?_
    refine e3_mono (sM_functionOf L xs _ _ _ _ h) (fun r H4 G5 h => ?_)
    obtain ⟨x6, rfl, h⟩ := h
    change e3_Ev _ _ _ _ 28 [(2, 40), (3, 0), (3, 0), (3, 0)] [(0, x6)] H4 G5 _
    refine e3_K [0] 30 [(2, 40), (3, 0), (3, 0), (3, 0)] [(0, (-4)), (0, x6)] (H4) (G5) (wZ L xs) (M := tbM218) rfl rfl trivial ?_
    refine e3_br (M := tbM218) rfl rfl rfl Iff.rfl (fun hc => ?_) (fun hc => ?_)
    · replace h := h.1 hc
      refine e3_K [0, 2, 0] 51 [(2, 40), (3, 0), (3, 0), (3, 0)] [(0, 12), (0, (H4 40 41))] (H4) (G5) (wZ L xs) (M := tbM218) rfl rfl ⟨trivial, trivial⟩ ?_
      refine e3_br (M := tbM218) rfl rfl rfl Iff.rfl (fun hc => ?_) (fun hc => ?_)
      · replace h := h.1 hc
        refine e3_K [0, 0, 0, 2] 61 [(2, 40), (3, 0), (3, 0), (3, 0)] [(0, (H4 40 5)), (0, 9), (2, 40)] (H4) (G5) (wZ L xs) (M := tbM218) rfl rfl ⟨trivial, trivial⟩ ?_
        refine e3_call (o := 0) (k := 210) (M2 := tbM210) (f1 := 0) (w1 := 0) (as := [(2, 40), (0, 9), (0, (H4 40 5))]) (rest := []) (M := tbM218) rfl rfl rfl trivial (Nat.le_of_ble_eq_true rfl) (Nat.le_of_ble_eq_true rfl) (Nat.le_of_ble_eq_true rfl) ?_
        refine e3_mono (sM_fails L xs _ _ _ _ _ h) (fun r H7 G8 h => ?_)
        obtain ⟨rfl, h⟩ := h
        change e3_Ev _ _ _ _ 64 [(2, 40), (3, 0), (3, 0), (3, 0)] [] H7 G8 _
        exact sM_readFunction_64 L xs Q _ _ h
      · replace h := h.2 hc
        exact sM_readFunction_64 L xs Q _ _ h
    · replace h := h.2 hc
      refine e3_K [0, 0, 0, 2] 39 [(2, 40), (3, 0), (3, 0), (3, 0)] [(0, (H4 40 5)), (0, 3), (2, 40)] (H4) (G5) (wZ L xs) (M := tbM218) rfl rfl ⟨trivial, trivial⟩ ?_
      refine e3_call (o := 0) (k := 210) (M2 := tbM210) (f1 := 0) (w1 := 0) (as := [(2, 40), (0, 3), (0, (H4 40 5))]) (rest := []) (M := tbM218) rfl rfl rfl trivial (Nat.le_of_ble_eq_true rfl) (Nat.le_of_ble_eq_true rfl) (Nat.le_of_ble_eq_true rfl) ?_
      refine e3_mono (sM_fails L xs _ _ _ _ _ h) (fun r H10 G11 h => ?_)
      obtain ⟨rfl, h⟩ := h
      change e3_Ev _ _ _ _ 42 [(2, 40), (3, 0), (3, 0), (3, 0)] [] H10 G11 _
      refine e3_K [0] 64 [(2, 40), (3, 0), (3, 0), (3, 0)] [] (H10) (G11) (wZ L xs) (M := tbM218) rfl rfl trivial ?_
      exact sM_readFunction_64 L xs Q _ _ h
  · replace h := h.2 hc
    refine e3_K [0, 0] 14 [(2, 40), (3, 0), (3, 0), (3, 0)] [(0, 2), (2, 40)] (H1) (G2) (wZ L xs) (M := tbM218) rfl rfl trivial ?_
    refine e3_call (o := 0) (k := 209) (M2 := tbM209) (f1 := 1) (w1 := 22) (as := [(2, 40), (0, 2)]) (rest := []) (M := tbM218) rfl rfl rfl trivial (Nat.le_of_ble_eq_true rfl) (Nat.le_of_ble_eq_true rfl) (Nat.le_of_ble_eq_true rfl) ?_
    refine e3_mono (sM_stop L xs _ _ _ _ h) (fun r H13 G14 h => ?_)
    obtain ⟨rfl, h⟩ := h
    change e3_Ev _ _ _ _ 17 [(2, 40), (3, 0), (3, 0), (3, 0)] [] H13 G14 _
    refine e3_K [0] 64 [(2, 40), (3, 0), (3, 0), (3, 0)] [] (H13) (G14) (wZ L xs) (M := tbM218) rfl rfl trivial ?_
    exact sM_readFunction_64 L xs Q _ _ h
/-- LetterPostModel.judgeAnswer(I)V -/
def wM_judgeAnswer_183 (Q : e3_H → e3_G → Prop)  (H : e3_H) (G : e3_G) : Prop :=
  Q H G
def wM_judgeAnswer_177 (Q : e3_H → e3_G → Prop) (k65 : Int → Int → Int → e3_H → e3_G → Prop) (l1 : Int) (l2 : Int) (l3 : Int) (H : e3_H) (G : e3_G) : Prop :=
  (k65 l1 l2 (e3_w32 (l3 + 1)) H G)
def wM_judgeAnswer_155 (Q : e3_H → e3_G → Prop) (k65 : Int → Int → Int → e3_H → e3_G → Prop) (l1 : Int) (l2 : Int) (l3 : Int) (s0 : Int) (H : e3_H) (G : e3_G) : Prop :=
  (((s0 : Int) = 0 → ((0 : Int) ≤ (e3_w32 ((e3_w32 (3 * l1)) + l3)) ∧ ((e3_w32 ((e3_w32 (3 * l1)) + l3)) : Int) < 576) ∧ (wM_fails (fun H2 G3 => (wM_judgeAnswer_177 Q k65 l1 l2 l3 H2 G3)) 5 (H 85 (e3_w32 ((e3_w32 (3 * l1)) + l3))) H G)) ∧ (¬ ((s0 : Int) = 0) → (wM_judgeAnswer_177 Q k65 l1 l2 l3 H G)))
def wM_judgeAnswer_150 (Q : e3_H → e3_G → Prop) (k65 : Int → Int → Int → e3_H → e3_G → Prop) (l1 : Int) (l2 : Int) (l3 : Int) (H : e3_H) (G : e3_G) : Prop :=
  (wM_judgeAnswer_155 Q k65 l1 l2 l3 1 H G)
def wM_judgeAnswer_154 (Q : e3_H → e3_G → Prop) (k65 : Int → Int → Int → e3_H → e3_G → Prop) (l1 : Int) (l2 : Int) (l3 : Int) (H : e3_H) (G : e3_G) : Prop :=
  (wM_judgeAnswer_155 Q k65 l1 l2 l3 0 H G)
def wM_judgeAnswer_65 (Q : e3_H → e3_G → Prop) : Nat → Int → Int → Int → e3_H → e3_G → Prop
  | 0, _, _, _, _, _ => False
  | nn + 1, l1, l2, l3, H, G => ((0 : Int) ≤ l2 ∧ (l2 : Int) < 12) ∧ (((l3 : Int) < (H 68 l2) → ((((H 40 7) : Int) = 0 → ((0 : Int) ≤ (e3_w32 ((e3_w32 (3 * l1)) + l3)) ∧ ((e3_w32 ((e3_w32 (3 * l1)) + l3)) : Int) < 576) ∧ ((0 : Int) ≤ (e3_w32 ((e3_w32 (8 * l1)) + (H 84 (e3_w32 ((e3_w32 (3 * l1)) + l3))))) ∧ ((e3_w32 ((e3_w32 (8 * l1)) + (H 84 (e3_w32 ((e3_w32 (3 * l1)) + l3))))) : Int) < 1536) ∧ ((0 : Int) ≤ (e3_w32 ((e3_w32 (3 * l2)) + l3)) ∧ ((e3_w32 ((e3_w32 (3 * l2)) + l3)) : Int) < 36) ∧ ((((H 58 (e3_w32 ((e3_w32 (8 * l1)) + (H 84 (e3_w32 ((e3_w32 (3 * l1)) + l3)))))) : Int) = (H 69 (e3_w32 ((e3_w32 (3 * l2)) + l3))) → (wM_judgeAnswer_150 Q (fun l1 l2 l3 H G => wM_judgeAnswer_65 Q nn l1 l2 l3 H G) l1 l2 l3 H G)) ∧ (¬ (((H 58 (e3_w32 ((e3_w32 (8 * l1)) + (H 84 (e3_w32 ((e3_w32 (3 * l1)) + l3)))))) : Int) = (H 69 (e3_w32 ((e3_w32 (3 * l2)) + l3)))) → ((((H 58 (e3_w32 ((e3_w32 (8 * l1)) + (H 84 (e3_w32 ((e3_w32 (3 * l1)) + l3)))))) : Int) < 3 → (wM_judgeAnswer_154 Q (fun l1 l2 l3 H G => wM_judgeAnswer_65 Q nn l1 l2 l3 H G) l1 l2 l3 H G)) ∧ (¬ (((H 58 (e3_w32 ((e3_w32 (8 * l1)) + (H 84 (e3_w32 ((e3_w32 (3 * l1)) + l3)))))) : Int) < 3) → ((((H 69 (e3_w32 ((e3_w32 (3 * l2)) + l3))) : Int) < 3 → (wM_judgeAnswer_154 Q (fun l1 l2 l3 H G => wM_judgeAnswer_65 Q nn l1 l2 l3 H G) l1 l2 l3 H G)) ∧ (¬ (((H 69 (e3_w32 ((e3_w32 (3 * l2)) + l3))) : Int) < 3) → (wM_isOf (fun x7 H5 G6 => (((x7 : Int) = 0 → (wM_judgeAnswer_154 Q (fun l1 l2 l3 H G => wM_judgeAnswer_65 Q nn l1 l2 l3 H G) l1 l2 l3 H5 G6)) ∧ (¬ ((x7 : Int) = 0) → (wM_judgeAnswer_150 Q (fun l1 l2 l3 H G => wM_judgeAnswer_65 Q nn l1 l2 l3 H G) l1 l2 l3 H5 G6)))) (e3_w32 ((H 58 (e3_w32 ((e3_w32 (8 * l1)) + (H 84 (e3_w32 ((e3_w32 (3 * l1)) + l3)))))) - 3)) (e3_w32 ((H 69 (e3_w32 ((e3_w32 (3 * l2)) + l3))) - 3)) H G)))))))) ∧ (¬ (((H 40 7) : Int) = 0) → (wM_judgeAnswer_183 Q H G)))) ∧ (¬ ((l3 : Int) < (H 68 l2)) → (wM_judgeAnswer_183 Q H G)))
def wM_judgeAnswer_63 (Q : e3_H → e3_G → Prop) (l1 : Int) (l2 : Int) (H : e3_H) (G : e3_G) : Prop :=
  (∃ n, wM_judgeAnswer_65 Q n l1 l2 0 H G)
def wM_judgeAnswer (Q : e3_H → e3_G → Prop) (l1 : Int) (H : e3_H) (G : e3_G) : Prop :=
  ((0 : Int) ≤ l1 ∧ (l1 : Int) < 192) ∧ (wM_functionOf (fun x4 H2 G3 => (((x4 : Int) = (-4) → ((0 : Int) ≤ l1 ∧ (l1 : Int) < 192) ∧ (wM_fails (fun H6 G7 => Q H6 G7) 4 (H2 82 l1) H2 G3)) ∧ (¬ ((x4 : Int) = (-4)) → ((0 : Int) ≤ l1 ∧ (l1 : Int) < 192) ∧ ∀ H9 : e3_H, H9 = e3_up H2 80 l1 x4 → ((0 : Int) ≤ l1 ∧ (l1 : Int) < 192) ∧ ((0 : Int) ≤ x4 ∧ (x4 : Int) < 12) ∧ ((((H9 83 l1) : Int) = (H9 68 x4) → (wM_judgeAnswer_63 Q l1 x4 H9 G3)) ∧ (¬ (((H9 83 l1) : Int) = (H9 68 x4)) → ((0 : Int) ≤ l1 ∧ (l1 : Int) < 192) ∧ (wM_fails (fun H14 G15 => (wM_judgeAnswer_63 Q l1 x4 H14 G15)) 6 (H9 82 l1) H9 G3)))))) (H 81 l1) H G)
set_option maxRecDepth 100000 in
set_option maxHeartbeats 4000000 in
theorem sM_judgeAnswer_183 (L : Nat) (xs : Nat → Int32) (Q : e3_H → e3_G → Prop)  (H : e3_H) (G : e3_G) (h : wM_judgeAnswer_183 Q  H G) : e3_Ev (wB L xs) 1 24 241 183 [(3, 0), (3, 0), (3, 0), (3, 0), (3, 0), (3, 0), (3, 0)] [] H G (e3_qv Q) := by
  unfold wM_judgeAnswer_183 at h
  exact e3_retv (M := tbM241) rfl rfl rfl ⟨rfl, h⟩
set_option maxRecDepth 100000 in
set_option maxHeartbeats 4000000 in
theorem sM_judgeAnswer_177 (L : Nat) (xs : Nat → Int32) (Q : e3_H → e3_G → Prop) (k65 : Int → Int → Int → e3_H → e3_G → Prop) (hk65 : ∀ (l1 : Int) (l2 : Int) (l3 : Int) (H : e3_H) (G : e3_G), k65 l1 l2 l3 H G → e3_Ev (wB L xs) 1 24 241 65 [(2, 40), (0, l1), (0, l2), (0, l3), (3, 0), (3, 0), (3, 0)] [] H G (e3_qv Q)) (l1 : Int) (l2 : Int) (l3 : Int) (H : e3_H) (G : e3_G) (h : wM_judgeAnswer_177 Q k65 l1 l2 l3 H G) : e3_Ev (wB L xs) 1 24 241 177 [(2, 40), (0, l1), (0, l2), (0, l3), (3, 0), (3, 0), (3, 0)] [] H G (e3_qv Q) := by
  unfold wM_judgeAnswer_177 at h
  refine e3_K [0, 0] 65 [(2, 40), (0, l1), (0, l2), (0, (e3_w32 (l3 + 1))), (3, 0), (3, 0), (3, 0)] [] (H) (G) (wZ L xs) (M := tbM241) rfl rfl trivial ?_
  exact hk65 _ _ _ _ _ h
set_option maxRecDepth 100000 in
set_option maxHeartbeats 4000000 in
theorem sM_judgeAnswer_155 (L : Nat) (xs : Nat → Int32) (Q : e3_H → e3_G → Prop) (k65 : Int → Int → Int → e3_H → e3_G → Prop) (hk65 : ∀ (l1 : Int) (l2 : Int) (l3 : Int) (H : e3_H) (G : e3_G), k65 l1 l2 l3 H G → e3_Ev (wB L xs) 1 24 241 65 [(2, 40), (0, l1), (0, l2), (0, l3), (3, 0), (3, 0), (3, 0)] [] H G (e3_qv Q)) (l1 : Int) (l2 : Int) (l3 : Int) (s0 : Int) (H : e3_H) (G : e3_G) (h : wM_judgeAnswer_155 Q k65 l1 l2 l3 s0 H G) : e3_Ev (wB L xs) 1 24 241 155 [(2, 40), (0, l1), (0, l2), (0, l3), (3, 0), (3, 0), (3, 0)] [(0, s0)] H G (e3_qv Q) := by
  unfold wM_judgeAnswer_155 at h
  refine e3_K [0, 0] 159 [(2, 40), (0, l1), (0, l2), (0, l3), (3, 0), (3, 0), (0, s0)] [(0, s0)] (H) (G) (wZ L xs) (M := tbM241) rfl rfl trivial ?_
  refine e3_br (M := tbM241) rfl rfl rfl Iff.rfl (fun hc => ?_) (fun hc => ?_)
  · replace h := h.1 hc
    obtain ⟨o1, h⟩ := h
    refine e3_K [0, 0, 0, 4, 0, 0, 0, 0, 0, 2] 174 [(2, 40), (0, l1), (0, l2), (0, l3), (3, 0), (3, 0), (0, s0)] [(0, (H 85 (e3_w32 ((e3_w32 (3 * l1)) + l3)))), (0, 5), (2, 40)] (H) (G) (wZ L xs) (M := tbM241) rfl rfl ⟨trivial, o1, trivial⟩ ?_
    refine e3_call (o := 0) (k := 210) (M2 := tbM210) (f1 := 0) (w1 := 0) (as := [(2, 40), (0, 5), (0, (H 85 (e3_w32 ((e3_w32 (3 * l1)) + l3))))]) (rest := []) (M := tbM241) rfl rfl rfl trivial (Nat.le_of_ble_eq_true rfl) (Nat.le_of_ble_eq_true rfl) (Nat.le_of_ble_eq_true rfl) ?_
    refine e3_mono (sM_fails L xs _ _ _ _ _ h) (fun r H2 G3 h => ?_)
    obtain ⟨rfl, h⟩ := h
    change e3_Ev _ _ _ _ 177 [(2, 40), (0, l1), (0, l2), (0, l3), (3, 0), (3, 0), (0, s0)] [] H2 G3 _
    refine e3_fgt [true, true, true, true, false, false, false] ?_
    exact sM_judgeAnswer_177 L xs Q k65 hk65 _ _ _ _ _ h
  · replace h := h.2 hc
    refine e3_fgt [true, true, true, true, false, false, false] ?_
    exact sM_judgeAnswer_177 L xs Q k65 hk65 _ _ _ _ _ h
set_option maxRecDepth 100000 in
set_option maxHeartbeats 4000000 in
theorem sM_judgeAnswer_150 (L : Nat) (xs : Nat → Int32) (Q : e3_H → e3_G → Prop) (k65 : Int → Int → Int → e3_H → e3_G → Prop) (hk65 : ∀ (l1 : Int) (l2 : Int) (l3 : Int) (H : e3_H) (G : e3_G), k65 l1 l2 l3 H G → e3_Ev (wB L xs) 1 24 241 65 [(2, 40), (0, l1), (0, l2), (0, l3), (3, 0), (3, 0), (3, 0)] [] H G (e3_qv Q)) (l1 : Int) (l2 : Int) (l3 : Int) (H : e3_H) (G : e3_G) (h : wM_judgeAnswer_150 Q k65 l1 l2 l3 H G) : e3_Ev (wB L xs) 1 24 241 150 [(2, 40), (0, l1), (0, l2), (0, l3), (3, 0), (3, 0), (3, 0)] [] H G (e3_qv Q) := by
  unfold wM_judgeAnswer_150 at h
  refine e3_K [0, 0] 155 [(2, 40), (0, l1), (0, l2), (0, l3), (3, 0), (3, 0), (3, 0)] [(0, 1)] (H) (G) (wZ L xs) (M := tbM241) rfl rfl trivial ?_
  exact sM_judgeAnswer_155 L xs Q k65 hk65 _ _ _ _ _ _ h
set_option maxRecDepth 100000 in
set_option maxHeartbeats 4000000 in
theorem sM_judgeAnswer_154 (L : Nat) (xs : Nat → Int32) (Q : e3_H → e3_G → Prop) (k65 : Int → Int → Int → e3_H → e3_G → Prop) (hk65 : ∀ (l1 : Int) (l2 : Int) (l3 : Int) (H : e3_H) (G : e3_G), k65 l1 l2 l3 H G → e3_Ev (wB L xs) 1 24 241 65 [(2, 40), (0, l1), (0, l2), (0, l3), (3, 0), (3, 0), (3, 0)] [] H G (e3_qv Q)) (l1 : Int) (l2 : Int) (l3 : Int) (H : e3_H) (G : e3_G) (h : wM_judgeAnswer_154 Q k65 l1 l2 l3 H G) : e3_Ev (wB L xs) 1 24 241 154 [(2, 40), (0, l1), (0, l2), (0, l3), (3, 0), (3, 0), (3, 0)] [] H G (e3_qv Q) := by
  unfold wM_judgeAnswer_154 at h
  refine e3_K [0] 155 [(2, 40), (0, l1), (0, l2), (0, l3), (3, 0), (3, 0), (3, 0)] [(0, 0)] (H) (G) (wZ L xs) (M := tbM241) rfl rfl trivial ?_
  exact sM_judgeAnswer_155 L xs Q k65 hk65 _ _ _ _ _ _ h
set_option maxRecDepth 100000 in
set_option maxHeartbeats 4000000 in
theorem sM_judgeAnswer_65 (L : Nat) (xs : Nat → Int32) (Q : e3_H → e3_G → Prop) : ∀ (nl : Nat) (l1 : Int) (l2 : Int) (l3 : Int) (H : e3_H) (G : e3_G), wM_judgeAnswer_65 Q nl l1 l2 l3 H G → e3_Ev (wB L xs) 1 24 241 65 [(2, 40), (0, l1), (0, l2), (0, l3), (3, 0), (3, 0), (3, 0)] [] H G (e3_qv Q) := by
  intro nl
  induction nl with
  | zero => intro l1 l2 l3 H G h; exact h.elim
  | succ nn ih =>
    intro l1 l2 l3 H G h
    have h : ((0 : Int) ≤ l2 ∧ (l2 : Int) < 12) ∧ (((l3 : Int) < (H 68 l2) → ((((H 40 7) : Int) = 0 → ((0 : Int) ≤ (e3_w32 ((e3_w32 (3 * l1)) + l3)) ∧ ((e3_w32 ((e3_w32 (3 * l1)) + l3)) : Int) < 576) ∧ ((0 : Int) ≤ (e3_w32 ((e3_w32 (8 * l1)) + (H 84 (e3_w32 ((e3_w32 (3 * l1)) + l3))))) ∧ ((e3_w32 ((e3_w32 (8 * l1)) + (H 84 (e3_w32 ((e3_w32 (3 * l1)) + l3))))) : Int) < 1536) ∧ ((0 : Int) ≤ (e3_w32 ((e3_w32 (3 * l2)) + l3)) ∧ ((e3_w32 ((e3_w32 (3 * l2)) + l3)) : Int) < 36) ∧ ((((H 58 (e3_w32 ((e3_w32 (8 * l1)) + (H 84 (e3_w32 ((e3_w32 (3 * l1)) + l3)))))) : Int) = (H 69 (e3_w32 ((e3_w32 (3 * l2)) + l3))) → (wM_judgeAnswer_150 Q (fun l1 l2 l3 H G => wM_judgeAnswer_65 Q nn l1 l2 l3 H G) l1 l2 l3 H G)) ∧ (¬ (((H 58 (e3_w32 ((e3_w32 (8 * l1)) + (H 84 (e3_w32 ((e3_w32 (3 * l1)) + l3)))))) : Int) = (H 69 (e3_w32 ((e3_w32 (3 * l2)) + l3)))) → ((((H 58 (e3_w32 ((e3_w32 (8 * l1)) + (H 84 (e3_w32 ((e3_w32 (3 * l1)) + l3)))))) : Int) < 3 → (wM_judgeAnswer_154 Q (fun l1 l2 l3 H G => wM_judgeAnswer_65 Q nn l1 l2 l3 H G) l1 l2 l3 H G)) ∧ (¬ (((H 58 (e3_w32 ((e3_w32 (8 * l1)) + (H 84 (e3_w32 ((e3_w32 (3 * l1)) + l3)))))) : Int) < 3) → ((((H 69 (e3_w32 ((e3_w32 (3 * l2)) + l3))) : Int) < 3 → (wM_judgeAnswer_154 Q (fun l1 l2 l3 H G => wM_judgeAnswer_65 Q nn l1 l2 l3 H G) l1 l2 l3 H G)) ∧ (¬ (((H 69 (e3_w32 ((e3_w32 (3 * l2)) + l3))) : Int) < 3) → (wM_isOf (fun x7 H5 G6 => (((x7 : Int) = 0 → (wM_judgeAnswer_154 Q (fun l1 l2 l3 H G => wM_judgeAnswer_65 Q nn l1 l2 l3 H G) l1 l2 l3 H5 G6)) ∧ (¬ ((x7 : Int) = 0) → (wM_judgeAnswer_150 Q (fun l1 l2 l3 H G => wM_judgeAnswer_65 Q nn l1 l2 l3 H G) l1 l2 l3 H5 G6)))) (e3_w32 ((H 58 (e3_w32 ((e3_w32 (8 * l1)) + (H 84 (e3_w32 ((e3_w32 (3 * l1)) + l3)))))) - 3)) (e3_w32 ((H 69 (e3_w32 ((e3_w32 (3 * l2)) + l3))) - 3)) H G)))))))) ∧ (¬ (((H 40 7) : Int) = 0) → (wM_judgeAnswer_183 Q H G)))) ∧ (¬ ((l3 : Int) < (H 68 l2)) → (wM_judgeAnswer_183 Q H G))) := h
    obtain ⟨o1, h⟩ := h
    refine e3_K [0, 0, 4, 0, 2] 72 [(2, 40), (0, l1), (0, l2), (0, l3), (3, 0), (3, 0), (3, 0)] [(0, (H 68 l2)), (0, l3)] (H) (G) (wZ L xs) (M := tbM241) rfl rfl ⟨trivial, o1, trivial⟩ ?_
    refine e3_br (M := tbM241) rfl rfl rfl Iff.rfl (fun hc => ?_) (fun hc => ?_)
    · replace h := h.1 hc
      refine e3_K [0, 2] 79 [(2, 40), (0, l1), (0, l2), (0, l3), (3, 0), (3, 0), (3, 0)] [(0, (H 40 7))] (H) (G) (wZ L xs) (M := tbM241) rfl rfl ⟨trivial, trivial⟩ ?_
      refine e3_br (M := tbM241) rfl rfl rfl Iff.rfl (fun hc => ?_) (fun hc => ?_)
      · replace h := h.1 hc
        obtain ⟨o2, o3, o4, h⟩ := h
        refine e3_K [0, 4, 0, 0, 0, 0, 4, 0, 0, 0, 0, 0, 2, 0, 2, 0, 0, 4, 0, 0, 0, 0, 0, 2] 114 [(2, 40), (0, l1), (0, l2), (0, l3), (0, (H 58 (e3_w32 ((e3_w32 (8 * l1)) + (H 84 (e3_w32 ((e3_w32 (3 * l1)) + l3))))))), (3, 0), (3, 0)] [(0, (H 69 (e3_w32 ((e3_w32 (3 * l2)) + l3))))] (H) (G) (wZ L xs) (M := tbM241) rfl rfl ⟨trivial, trivial, o2, o3, trivial, o4, trivial⟩ ?_
        refine e3_K [0, 0, 0] 120 [(2, 40), (0, l1), (0, l2), (0, l3), (0, (H 58 (e3_w32 ((e3_w32 (8 * l1)) + (H 84 (e3_w32 ((e3_w32 (3 * l1)) + l3))))))), (0, (H 69 (e3_w32 ((e3_w32 (3 * l2)) + l3)))), (3, 0)] [(0, (H 69 (e3_w32 ((e3_w32 (3 * l2)) + l3)))), (0, (H 58 (e3_w32 ((e3_w32 (8 * l1)) + (H 84 (e3_w32 ((e3_w32 (3 * l1)) + l3)))))))] (H) (G) (wZ L xs) (M := tbM241) rfl rfl trivial ?_
        refine e3_br (M := tbM241) rfl rfl rfl Iff.rfl (fun hc => ?_) (fun hc => ?_)
        · replace h := h.1 hc
          refine e3_fgt [true, true, true, true, false, false, false] ?_
          exact sM_judgeAnswer_150 L xs Q (fun l1 l2 l3 H G => wM_judgeAnswer_65 Q nn l1 l2 l3 H G) ih _ _ _ _ _ h
        · replace h := h.2 hc
          refine e3_K [0, 0] 126 [(2, 40), (0, l1), (0, l2), (0, l3), (0, (H 58 (e3_w32 ((e3_w32 (8 * l1)) + (H 84 (e3_w32 ((e3_w32 (3 * l1)) + l3))))))), (0, (H 69 (e3_w32 ((e3_w32 (3 * l2)) + l3)))), (3, 0)] [(0, 3), (0, (H 58 (e3_w32 ((e3_w32 (8 * l1)) + (H 84 (e3_w32 ((e3_w32 (3 * l1)) + l3)))))))] (H) (G) (wZ L xs) (M := tbM241) rfl rfl trivial ?_
          refine e3_br (M := tbM241) rfl rfl rfl Iff.rfl (fun hc => ?_) (fun hc => ?_)
          · replace h := h.1 hc
            refine e3_fgt [true, true, true, true, false, false, false] ?_
            exact sM_judgeAnswer_154 L xs Q (fun l1 l2 l3 H G => wM_judgeAnswer_65 Q nn l1 l2 l3 H G) ih _ _ _ _ _ h
          · replace h := h.2 hc
            refine e3_K [0, 0] 132 [(2, 40), (0, l1), (0, l2), (0, l3), (0, (H 58 (e3_w32 ((e3_w32 (8 * l1)) + (H 84 (e3_w32 ((e3_w32 (3 * l1)) + l3))))))), (0, (H 69 (e3_w32 ((e3_w32 (3 * l2)) + l3)))), (3, 0)] [(0, 3), (0, (H 69 (e3_w32 ((e3_w32 (3 * l2)) + l3))))] (H) (G) (wZ L xs) (M := tbM241) rfl rfl trivial ?_
            refine e3_br (M := tbM241) rfl rfl rfl Iff.rfl (fun hc => ?_) (fun hc => ?_)
            · replace h := h.1 hc
              refine e3_fgt [true, true, true, true, false, false, false] ?_
              exact sM_judgeAnswer_154 L xs Q (fun l1 l2 l3 H G => wM_judgeAnswer_65 Q nn l1 l2 l3 H G) ih _ _ _ _ _ h
            · replace h := h.2 hc
              refine e3_K [0, 0, 0, 0, 0, 0, 0] 144 [(2, 40), (0, l1), (0, l2), (0, l3), (0, (H 58 (e3_w32 ((e3_w32 (8 * l1)) + (H 84 (e3_w32 ((e3_w32 (3 * l1)) + l3))))))), (0, (H 69 (e3_w32 ((e3_w32 (3 * l2)) + l3)))), (3, 0)] [(0, (e3_w32 ((H 69 (e3_w32 ((e3_w32 (3 * l2)) + l3))) - 3))), (0, (e3_w32 ((H 58 (e3_w32 ((e3_w32 (8 * l1)) + (H 84 (e3_w32 ((e3_w32 (3 * l1)) + l3)))))) - 3))), (2, 40)] (H) (G) (wZ L xs) (M := tbM241) rfl rfl trivial ?_
              refine e3_call (o := 0) (k := 223) (M2 := tbM223) (f1 := 0) (w1 := 0) (as := [(2, 40), (0, (e3_w32 ((H 58 (e3_w32 ((e3_w32 (8 * l1)) + (H 84 (e3_w32 ((e3_w32 (3 * l1)) + l3)))))) - 3))), (0, (e3_w32 ((H 69 (e3_w32 ((e3_w32 (3 * l2)) + l3))) - 3)))]) (rest := []) (M := tbM241) rfl rfl rfl trivial (Nat.le_of_ble_eq_true rfl) (Nat.le_of_ble_eq_true rfl) (Nat.le_of_ble_eq_true rfl) ?_
              refine e3_mono (sM_isOf L xs _ _ _ _ _ h) (fun r H5 G6 h => ?_)
              obtain ⟨x7, rfl, h⟩ := h
              change e3_Ev _ _ _ _ 147 [(2, 40), (0, l1), (0, l2), (0, l3), (0, (H 58 (e3_w32 ((e3_w32 (8 * l1)) + (H 84 (e3_w32 ((e3_w32 (3 * l1)) + l3))))))), (0, (H 69 (e3_w32 ((e3_w32 (3 * l2)) + l3)))), (3, 0)] [(0, x7)] H5 G6 _
              refine e3_br (M := tbM241) rfl rfl rfl Iff.rfl (fun hc => ?_) (fun hc => ?_)
              · replace h := h.1 hc
                refine e3_fgt [true, true, true, true, false, false, false] ?_
                exact sM_judgeAnswer_154 L xs Q (fun l1 l2 l3 H G => wM_judgeAnswer_65 Q nn l1 l2 l3 H G) ih _ _ _ _ _ h
              · replace h := h.2 hc
                refine e3_fgt [true, true, true, true, false, false, false] ?_
                exact sM_judgeAnswer_150 L xs Q (fun l1 l2 l3 H G => wM_judgeAnswer_65 Q nn l1 l2 l3 H G) ih _ _ _ _ _ h
      · replace h := h.2 hc
        refine e3_fgt [false, false, false, false, false, false, false] ?_
        exact sM_judgeAnswer_183 L xs Q _ _ h
    · replace h := h.2 hc
      refine e3_fgt [false, false, false, false, false, false, false] ?_
      exact sM_judgeAnswer_183 L xs Q _ _ h
set_option maxRecDepth 100000 in
set_option maxHeartbeats 4000000 in
theorem sM_judgeAnswer_63 (L : Nat) (xs : Nat → Int32) (Q : e3_H → e3_G → Prop) (l1 : Int) (l2 : Int) (H : e3_H) (G : e3_G) (h : wM_judgeAnswer_63 Q l1 l2 H G) : e3_Ev (wB L xs) 1 24 241 63 [(2, 40), (0, l1), (0, l2), (3, 0), (3, 0), (3, 0), (3, 0)] [] H G (e3_qv Q) := by
  unfold wM_judgeAnswer_63 at h
  refine e3_K [0, 0] 65 [(2, 40), (0, l1), (0, l2), (0, 0), (3, 0), (3, 0), (3, 0)] [] (H) (G) (wZ L xs) (M := tbM241) rfl rfl trivial ?_
  obtain ⟨nl, h⟩ := h
  exact sM_judgeAnswer_65 L xs Q nl _ _ _ _ _ h
set_option maxRecDepth 100000 in
set_option maxHeartbeats 4000000 in
theorem sM_judgeAnswer (L : Nat) (xs : Nat → Int32) (Q : e3_H → e3_G → Prop) (l1 : Int) (H : e3_H) (G : e3_G) (h : wM_judgeAnswer Q l1 H G) : e3_Ev (wB L xs) 1 24 241 0 [(2, 40), (0, l1), (3, 0), (3, 0), (3, 0), (3, 0), (3, 0)] [] H G (e3_qv Q) := by
  unfold wM_judgeAnswer at h
  obtain ⟨o1, h⟩ := h
  refine e3_K [0, 0, 4, 0, 2] 7 [(2, 40), (0, l1), (3, 0), (3, 0), (3, 0), (3, 0), (3, 0)] [(1, (H 81 l1)), (2, 40)] (H) (G) (wZ L xs) (M := tbM241) rfl rfl ⟨trivial, o1, trivial⟩ ?_
  refine e3_call (o := 0) (k := 219) (M2 := tbM219) (f1 := 0) (w1 := 0) (as := [(2, 40), (1, (H 81 l1))]) (rest := []) (M := tbM241) rfl rfl rfl trivial (Nat.le_of_ble_eq_true rfl) (Nat.le_of_ble_eq_true rfl) (Nat.le_of_ble_eq_true rfl) ?_
  refine e3_mono (sM_functionOf L xs _ _ _ _ h) (fun r H2 G3 h => ?_)
  obtain ⟨x4, rfl, h⟩ := h
  change e3_Ev _ _ _ _ 10 [(2, 40), (0, l1), (3, 0), (3, 0), (3, 0), (3, 0), (3, 0)] [(0, x4)] H2 G3 _
  refine e3_K [0, 0, 0] 14 [(2, 40), (0, l1), (0, x4), (3, 0), (3, 0), (3, 0), (3, 0)] [(0, (-4)), (0, x4)] (H2) (G3) (wZ L xs) (M := tbM241) rfl rfl trivial ?_
  refine e3_br (M := tbM241) rfl rfl rfl Iff.rfl (fun hc => ?_) (fun hc => ?_)
  · replace h := h.1 hc
    obtain ⟨o5, h⟩ := h
    refine e3_K [0, 0, 0, 4, 0, 2] 25 [(2, 40), (0, l1), (0, x4), (3, 0), (3, 0), (3, 0), (3, 0)] [(0, (H2 82 l1)), (0, 4), (2, 40)] (H2) (G3) (wZ L xs) (M := tbM241) rfl rfl ⟨trivial, o5, trivial⟩ ?_
    refine e3_call (o := 0) (k := 210) (M2 := tbM210) (f1 := 0) (w1 := 0) (as := [(2, 40), (0, 4), (0, (H2 82 l1))]) (rest := []) (M := tbM241) rfl rfl rfl trivial (Nat.le_of_ble_eq_true rfl) (Nat.le_of_ble_eq_true rfl) (Nat.le_of_ble_eq_true rfl) ?_
    refine e3_mono (sM_fails L xs _ _ _ _ _ h) (fun r H6 G7 h => ?_)
    obtain ⟨rfl, h⟩ := h
    change e3_Ev _ _ _ _ 28 [(2, 40), (0, l1), (0, x4), (3, 0), (3, 0), (3, 0), (3, 0)] [] H6 G7 _
    exact e3_retv (M := tbM241) rfl rfl rfl ⟨rfl, h⟩
  · replace h := h.2 hc
    obtain ⟨o10, h⟩ := h
    refine e3_K [0, 4, 0, 0, 2] 36 [(2, 40), (0, l1), (0, x4), (3, 0), (3, 0), (3, 0), (3, 0)] [] (e3_up H2 80 l1 x4) (G3) (wZ L xs) (M := tbM241) rfl rfl ⟨trivial, o10, trivial⟩ ?_
    generalize hH9 : (e3_up H2 80 l1 x4) = H9
    replace h := h H9 hH9.symm
    obtain ⟨o11, o12, h⟩ := h
    refine e3_K [0, 4, 0, 2, 0, 4, 0, 2] 48 [(2, 40), (0, l1), (0, x4), (3, 0), (3, 0), (3, 0), (3, 0)] [(0, (H9 68 x4)), (0, (H9 83 l1))] (H9) (G3) (wZ L xs) (M := tbM241) rfl rfl ⟨trivial, o11, trivial, o12, trivial⟩ ?_
    refine e3_br (M := tbM241) rfl rfl rfl Iff.rfl (fun hc => ?_) (fun hc => ?_)
    · replace h := h.1 hc
      exact sM_judgeAnswer_63 L xs Q _ _ _ _ h
    · replace h := h.2 hc
      obtain ⟨o13, h⟩ := h
      refine e3_K [0, 0, 0, 4, 0, 2] 60 [(2, 40), (0, l1), (0, x4), (3, 0), (3, 0), (3, 0), (3, 0)] [(0, (H9 82 l1)), (0, 6), (2, 40)] (H9) (G3) (wZ L xs) (M := tbM241) rfl rfl ⟨trivial, o13, trivial⟩ ?_
      refine e3_call (o := 0) (k := 210) (M2 := tbM210) (f1 := 0) (w1 := 0) (as := [(2, 40), (0, 6), (0, (H9 82 l1))]) (rest := []) (M := tbM241) rfl rfl rfl trivial (Nat.le_of_ble_eq_true rfl) (Nat.le_of_ble_eq_true rfl) (Nat.le_of_ble_eq_true rfl) ?_
      refine e3_mono (sM_fails L xs _ _ _ _ _ h) (fun r H14 G15 h => ?_)
      obtain ⟨rfl, h⟩ := h
      change e3_Ev _ _ _ _ 63 [(2, 40), (0, l1), (0, x4), (3, 0), (3, 0), (3, 0), (3, 0)] [] H14 G15 _
      exact sM_judgeAnswer_63 L xs Q _ _ _ _ h
/-- LetterPostModel.judge()V -/
def wM_judge_156 (Q : e3_H → e3_G → Prop) (k68 : Int → e3_H → e3_G → Prop) (l1 : Int) (H : e3_H) (G : e3_G) : Prop :=
  (k68 (e3_w32 (l1 + 1)) H G)
def wM_judge_150 (Q : e3_H → e3_G → Prop) (k68 : Int → e3_H → e3_G → Prop) (k85 : Int → Int → e3_H → e3_G → Prop) (l1 : Int) (l2 : Int) (H : e3_H) (G : e3_G) : Prop :=
  (k85 l1 (e3_w32 (l2 + 1)) H G)
def wM_judge_85 (Q : e3_H → e3_G → Prop) (k68 : Int → e3_H → e3_G → Prop) : Nat → Int → Int → e3_H → e3_G → Prop
  | 0, _, _, _, _ => False
  | nn + 1, l1, l2, H, G => ((0 : Int) ≤ l1 ∧ (l1 : Int) < 12) ∧ (((l2 : Int) < (H 70 l1) → ((((H 40 7) : Int) = 0 → ((0 : Int) ≤ l1 ∧ (l1 : Int) < 12) ∧ ((0 : Int) ≤ (e3_w32 ((e3_w32 (16 * l1)) + l2)) ∧ ((e3_w32 ((e3_w32 (16 * l1)) + l2)) : Int) < 192) ∧ ((0 : Int) ≤ l1 ∧ (l1 : Int) < 12) ∧ ∀ H2 : e3_H, H2 = e3_up H 71 l1 (e3_w32 ((H 71 l1) + (H 74 (e3_w32 ((e3_w32 (16 * l1)) + l2))))) → ((0 : Int) ≤ l1 ∧ (l1 : Int) < 12) ∧ (((40 : Int) < (H2 71 l1) → ((0 : Int) ≤ (e3_w32 ((e3_w32 (16 * l1)) + l2)) ∧ ((e3_w32 ((e3_w32 (16 * l1)) + l2)) : Int) < 192) ∧ (wM_fails (fun H8 G9 => (wM_judge_150 Q k68 (fun l1 l2 H G => wM_judge_85 Q k68 nn l1 l2 H G) l1 l2 H8 G9)) 9 (H2 73 (e3_w32 ((e3_w32 (16 * l1)) + l2))) H2 G)) ∧ (¬ ((40 : Int) < (H2 71 l1)) → (wM_judge_150 Q k68 (fun l1 l2 H G => wM_judge_85 Q k68 nn l1 l2 H G) l1 l2 H2 G)))) ∧ (¬ (((H 40 7) : Int) = 0) → (wM_judge_156 Q k68 l1 H G)))) ∧ (¬ ((l2 : Int) < (H 70 l1)) → (wM_judge_156 Q k68 l1 H G)))
def wM_judge_68 (Q : e3_H → e3_G → Prop) : Nat → Int → e3_H → e3_G → Prop
  | 0, _, _, _ => False
  | nn + 1, l1, H, G => (((l1 : Int) < (H 40 41) → ((0 : Int) ≤ l1 ∧ (l1 : Int) < 12) ∧ ∀ H1 : e3_H, H1 = e3_up H 71 l1 0 → (∃ n, wM_judge_85 Q (fun l1 H G => wM_judge_68 Q nn l1 H G) n l1 0 H1 G)) ∧ (¬ ((l1 : Int) < (H 40 41)) → Q H G))
def wM_judge_60 (Q : e3_H → e3_G → Prop) (k2 : Int → e3_H → e3_G → Prop) (l1 : Int) (H : e3_H) (G : e3_G) : Prop :=
  (k2 (e3_w32 (l1 + 1)) H G)
def wM_judge_54 (Q : e3_H → e3_G → Prop) (k2 : Int → e3_H → e3_G → Prop) (k12 : Int → Int → e3_H → e3_G → Prop) (l1 : Int) (l2 : Int) (H : e3_H) (G : e3_G) : Prop :=
  (k12 l1 (e3_w32 (l2 + 1)) H G)
def wM_judge_12 (Q : e3_H → e3_G → Prop) (k2 : Int → e3_H → e3_G → Prop) : Nat → Int → Int → e3_H → e3_G → Prop
  | 0, _, _, _, _ => False
  | nn + 1, l1, l2, H, G => ((0 : Int) ≤ l1 ∧ (l1 : Int) < 12) ∧ (((l2 : Int) < (H 70 l1) → ((((H 40 7) : Int) = 0 → ((0 : Int) ≤ (e3_w32 ((e3_w32 (16 * l1)) + l2)) ∧ ((e3_w32 ((e3_w32 (16 * l1)) + l2)) : Int) < 192) ∧ ((((H 79 (e3_w32 ((e3_w32 (16 * l1)) + l2))) : Int) = 2 → (wM_judgeAnswer (fun H3 G4 => (wM_judge_54 Q k2 (fun l1 l2 H G => wM_judge_12 Q k2 nn l1 l2 H G) l1 l2 H3 G4)) (e3_w32 ((e3_w32 (16 * l1)) + l2)) H G)) ∧ (¬ (((H 79 (e3_w32 ((e3_w32 (16 * l1)) + l2))) : Int) = 2) → (wM_judge_54 Q k2 (fun l1 l2 H G => wM_judge_12 Q k2 nn l1 l2 H G) l1 l2 H G)))) ∧ (¬ (((H 40 7) : Int) = 0) → (wM_judge_60 Q k2 l1 H G)))) ∧ (¬ ((l2 : Int) < (H 70 l1)) → (wM_judge_60 Q k2 l1 H G)))
def wM_judge_2 (Q : e3_H → e3_G → Prop) : Nat → Int → e3_H → e3_G → Prop
  | 0, _, _, _ => False
  | nn + 1, l1, H, G => (((l1 : Int) < (H 40 41) → (∃ n, wM_judge_12 Q (fun l1 H G => wM_judge_2 Q nn l1 H G) n l1 0 H G)) ∧ (¬ ((l1 : Int) < (H 40 41)) → (∃ n, wM_judge_68 Q n 0 H G)))
def wM_judge (Q : e3_H → e3_G → Prop)  (H : e3_H) (G : e3_G) : Prop :=
  (∃ n, wM_judge_2 Q n 0 H G)
set_option maxRecDepth 100000 in
set_option maxHeartbeats 4000000 in
theorem sM_judge_156 (L : Nat) (xs : Nat → Int32) (Q : e3_H → e3_G → Prop) (k68 : Int → e3_H → e3_G → Prop) (hk68 : ∀ (l1 : Int) (H : e3_H) (G : e3_G), k68 l1 H G → e3_Ev (wB L xs) 2 50 240 68 [(2, 40), (0, l1), (3, 0)] [] H G (e3_qv Q)) (l1 : Int) (H : e3_H) (G : e3_G) (h : wM_judge_156 Q k68 l1 H G) : e3_Ev (wB L xs) 2 50 240 156 [(2, 40), (0, l1), (3, 0)] [] H G (e3_qv Q) := by
  unfold wM_judge_156 at h
  refine e3_K [0, 0] 68 [(2, 40), (0, (e3_w32 (l1 + 1))), (3, 0)] [] (H) (G) (wZ L xs) (M := tbM240) rfl rfl trivial ?_
  exact hk68 _ _ _ h
set_option maxRecDepth 100000 in
set_option maxHeartbeats 4000000 in
theorem sM_judge_150 (L : Nat) (xs : Nat → Int32) (Q : e3_H → e3_G → Prop) (k68 : Int → e3_H → e3_G → Prop) (hk68 : ∀ (l1 : Int) (H : e3_H) (G : e3_G), k68 l1 H G → e3_Ev (wB L xs) 2 50 240 68 [(2, 40), (0, l1), (3, 0)] [] H G (e3_qv Q)) (k85 : Int → Int → e3_H → e3_G → Prop) (hk85 : ∀ (l1 : Int) (l2 : Int) (H : e3_H) (G : e3_G), k85 l1 l2 H G → e3_Ev (wB L xs) 2 50 240 85 [(2, 40), (0, l1), (0, l2)] [] H G (e3_qv Q)) (l1 : Int) (l2 : Int) (H : e3_H) (G : e3_G) (h : wM_judge_150 Q k68 k85 l1 l2 H G) : e3_Ev (wB L xs) 2 50 240 150 [(2, 40), (0, l1), (0, l2)] [] H G (e3_qv Q) := by
  unfold wM_judge_150 at h
  refine e3_K [0, 0] 85 [(2, 40), (0, l1), (0, (e3_w32 (l2 + 1)))] [] (H) (G) (wZ L xs) (M := tbM240) rfl rfl trivial ?_
  exact hk85 _ _ _ _ h
set_option maxRecDepth 100000 in
set_option maxHeartbeats 4000000 in
theorem sM_judge_85 (L : Nat) (xs : Nat → Int32) (Q : e3_H → e3_G → Prop) (k68 : Int → e3_H → e3_G → Prop) (hk68 : ∀ (l1 : Int) (H : e3_H) (G : e3_G), k68 l1 H G → e3_Ev (wB L xs) 2 50 240 68 [(2, 40), (0, l1), (3, 0)] [] H G (e3_qv Q)) : ∀ (nl : Nat) (l1 : Int) (l2 : Int) (H : e3_H) (G : e3_G), wM_judge_85 Q k68 nl l1 l2 H G → e3_Ev (wB L xs) 2 50 240 85 [(2, 40), (0, l1), (0, l2)] [] H G (e3_qv Q) := by
  intro nl
  induction nl with
  | zero => intro l1 l2 H G h; exact h.elim
  | succ nn ih =>
    intro l1 l2 H G h
    have h : ((0 : Int) ≤ l1 ∧ (l1 : Int) < 12) ∧ (((l2 : Int) < (H 70 l1) → ((((H 40 7) : Int) = 0 → ((0 : Int) ≤ l1 ∧ (l1 : Int) < 12) ∧ ((0 : Int) ≤ (e3_w32 ((e3_w32 (16 * l1)) + l2)) ∧ ((e3_w32 ((e3_w32 (16 * l1)) + l2)) : Int) < 192) ∧ ((0 : Int) ≤ l1 ∧ (l1 : Int) < 12) ∧ ∀ H2 : e3_H, H2 = e3_up H 71 l1 (e3_w32 ((H 71 l1) + (H 74 (e3_w32 ((e3_w32 (16 * l1)) + l2))))) → ((0 : Int) ≤ l1 ∧ (l1 : Int) < 12) ∧ (((40 : Int) < (H2 71 l1) → ((0 : Int) ≤ (e3_w32 ((e3_w32 (16 * l1)) + l2)) ∧ ((e3_w32 ((e3_w32 (16 * l1)) + l2)) : Int) < 192) ∧ (wM_fails (fun H8 G9 => (wM_judge_150 Q k68 (fun l1 l2 H G => wM_judge_85 Q k68 nn l1 l2 H G) l1 l2 H8 G9)) 9 (H2 73 (e3_w32 ((e3_w32 (16 * l1)) + l2))) H2 G)) ∧ (¬ ((40 : Int) < (H2 71 l1)) → (wM_judge_150 Q k68 (fun l1 l2 H G => wM_judge_85 Q k68 nn l1 l2 H G) l1 l2 H2 G)))) ∧ (¬ (((H 40 7) : Int) = 0) → (wM_judge_156 Q k68 l1 H G)))) ∧ (¬ ((l2 : Int) < (H 70 l1)) → (wM_judge_156 Q k68 l1 H G))) := h
    obtain ⟨o1, h⟩ := h
    refine e3_K [0, 0, 4, 0, 2] 92 [(2, 40), (0, l1), (0, l2)] [(0, (H 70 l1)), (0, l2)] (H) (G) (wZ L xs) (M := tbM240) rfl rfl ⟨trivial, o1, trivial⟩ ?_
    refine e3_br (M := tbM240) rfl rfl rfl Iff.rfl (fun hc => ?_) (fun hc => ?_)
    · replace h := h.1 hc
      refine e3_K [0, 2] 99 [(2, 40), (0, l1), (0, l2)] [(0, (H 40 7))] (H) (G) (wZ L xs) (M := tbM240) rfl rfl ⟨trivial, trivial⟩ ?_
      refine e3_br (M := tbM240) rfl rfl rfl Iff.rfl (fun hc => ?_) (fun hc => ?_)
      · replace h := h.1 hc
        obtain ⟨o3, o4, o5, h⟩ := h
        refine e3_K [0, 4, 0, 0, 2, 0, 4, 0, 0, 0, 0, 0, 2, 0, 2] 122 [(2, 40), (0, l1), (0, l2)] [] (e3_up H 71 l1 (e3_w32 ((H 71 l1) + (H 74 (e3_w32 ((e3_w32 (16 * l1)) + l2)))))) (G) (wZ L xs) (M := tbM240) rfl rfl ⟨trivial, o3, trivial, o4, o5, trivial⟩ ?_
        generalize hH2 : (e3_up H 71 l1 (e3_w32 ((H 71 l1) + (H 74 (e3_w32 ((e3_w32 (16 * l1)) + l2)))))) = H2
        replace h := h H2 hH2.symm
        obtain ⟨o6, h⟩ := h
        refine e3_K [0, 4, 0, 2, 0] 130 [(2, 40), (0, l1), (0, l2)] [(0, 40), (0, (H2 71 l1))] (H2) (G) (wZ L xs) (M := tbM240) rfl rfl ⟨trivial, o6, trivial⟩ ?_
        refine e3_br (M := tbM240) rfl rfl rfl Iff.rfl (fun hc => ?_) (fun hc => ?_)
        · replace h := h.1 hc
          obtain ⟨o7, h⟩ := h
          refine e3_K [0, 0, 0, 4, 0, 0, 0, 0, 0, 2] 147 [(2, 40), (0, l1), (0, l2)] [(0, (H2 73 (e3_w32 ((e3_w32 (16 * l1)) + l2)))), (0, 9), (2, 40)] (H2) (G) (wZ L xs) (M := tbM240) rfl rfl ⟨trivial, o7, trivial⟩ ?_
          refine e3_call (o := 0) (k := 210) (M2 := tbM210) (f1 := 0) (w1 := 0) (as := [(2, 40), (0, 9), (0, (H2 73 (e3_w32 ((e3_w32 (16 * l1)) + l2))))]) (rest := []) (M := tbM240) rfl rfl rfl trivial (Nat.le_of_ble_eq_true rfl) (Nat.le_of_ble_eq_true rfl) (Nat.le_of_ble_eq_true rfl) ?_
          refine e3_mono (sM_fails L xs _ _ _ _ _ h) (fun r H8 G9 h => ?_)
          obtain ⟨rfl, h⟩ := h
          change e3_Ev _ _ _ _ 150 [(2, 40), (0, l1), (0, l2)] [] H8 G9 _
          exact sM_judge_150 L xs Q k68 hk68 (fun l1 l2 H G => wM_judge_85 Q k68 nn l1 l2 H G) ih _ _ _ _ h
        · replace h := h.2 hc
          exact sM_judge_150 L xs Q k68 hk68 (fun l1 l2 H G => wM_judge_85 Q k68 nn l1 l2 H G) ih _ _ _ _ h
      · replace h := h.2 hc
        refine e3_fgt [true, true, false] ?_
        exact sM_judge_156 L xs Q k68 hk68 _ _ _ h
    · replace h := h.2 hc
      refine e3_fgt [true, true, false] ?_
      exact sM_judge_156 L xs Q k68 hk68 _ _ _ h
set_option maxRecDepth 100000 in
set_option maxHeartbeats 4000000 in
theorem sM_judge_68 (L : Nat) (xs : Nat → Int32) (Q : e3_H → e3_G → Prop) : ∀ (nl : Nat) (l1 : Int) (H : e3_H) (G : e3_G), wM_judge_68 Q nl l1 H G → e3_Ev (wB L xs) 2 50 240 68 [(2, 40), (0, l1), (3, 0)] [] H G (e3_qv Q) := by
  intro nl
  induction nl with
  | zero => intro l1 H G h; exact h.elim
  | succ nn ih =>
    intro l1 H G h
    have h : (((l1 : Int) < (H 40 41) → ((0 : Int) ≤ l1 ∧ (l1 : Int) < 12) ∧ ∀ H1 : e3_H, H1 = e3_up H 71 l1 0 → (∃ n, wM_judge_85 Q (fun l1 H G => wM_judge_68 Q nn l1 H G) n l1 0 H1 G)) ∧ (¬ ((l1 : Int) < (H 40 41)) → Q H G)) := h
    refine e3_K [0, 0, 2] 73 [(2, 40), (0, l1), (3, 0)] [(0, (H 40 41)), (0, l1)] (H) (G) (wZ L xs) (M := tbM240) rfl rfl ⟨trivial, trivial⟩ ?_
    refine e3_br (M := tbM240) rfl rfl rfl Iff.rfl (fun hc => ?_) (fun hc => ?_)
    · replace h := h.1 hc
      obtain ⟨o2, h⟩ := h
      refine e3_K [0, 4, 0, 0, 2] 83 [(2, 40), (0, l1), (3, 0)] [] (e3_up H 71 l1 0) (G) (wZ L xs) (M := tbM240) rfl rfl ⟨trivial, o2, trivial⟩ ?_
      generalize hH1 : (e3_up H 71 l1 0) = H1
      replace h := h H1 hH1.symm
      refine e3_K [0, 0] 85 [(2, 40), (0, l1), (0, 0)] [] (H1) (G) (wZ L xs) (M := tbM240) rfl rfl trivial ?_
      obtain ⟨nl, h⟩ := h
      exact sM_judge_85 L xs Q (fun l1 H G => wM_judge_68 Q nn l1 H G) ih nl _ _ _ _ h
    · replace h := h.2 hc
      exact e3_retv (M := tbM240) rfl rfl rfl ⟨rfl, h⟩
set_option maxRecDepth 100000 in
set_option maxHeartbeats 4000000 in
theorem sM_judge_60 (L : Nat) (xs : Nat → Int32) (Q : e3_H → e3_G → Prop) (k2 : Int → e3_H → e3_G → Prop) (hk2 : ∀ (l1 : Int) (H : e3_H) (G : e3_G), k2 l1 H G → e3_Ev (wB L xs) 2 50 240 2 [(2, 40), (0, l1), (3, 0)] [] H G (e3_qv Q)) (l1 : Int) (H : e3_H) (G : e3_G) (h : wM_judge_60 Q k2 l1 H G) : e3_Ev (wB L xs) 2 50 240 60 [(2, 40), (0, l1), (3, 0)] [] H G (e3_qv Q) := by
  unfold wM_judge_60 at h
  refine e3_K [0, 0] 2 [(2, 40), (0, (e3_w32 (l1 + 1))), (3, 0)] [] (H) (G) (wZ L xs) (M := tbM240) rfl rfl trivial ?_
  exact hk2 _ _ _ h
set_option maxRecDepth 100000 in
set_option maxHeartbeats 4000000 in
theorem sM_judge_54 (L : Nat) (xs : Nat → Int32) (Q : e3_H → e3_G → Prop) (k2 : Int → e3_H → e3_G → Prop) (hk2 : ∀ (l1 : Int) (H : e3_H) (G : e3_G), k2 l1 H G → e3_Ev (wB L xs) 2 50 240 2 [(2, 40), (0, l1), (3, 0)] [] H G (e3_qv Q)) (k12 : Int → Int → e3_H → e3_G → Prop) (hk12 : ∀ (l1 : Int) (l2 : Int) (H : e3_H) (G : e3_G), k12 l1 l2 H G → e3_Ev (wB L xs) 2 50 240 12 [(2, 40), (0, l1), (0, l2)] [] H G (e3_qv Q)) (l1 : Int) (l2 : Int) (H : e3_H) (G : e3_G) (h : wM_judge_54 Q k2 k12 l1 l2 H G) : e3_Ev (wB L xs) 2 50 240 54 [(2, 40), (0, l1), (0, l2)] [] H G (e3_qv Q) := by
  unfold wM_judge_54 at h
  refine e3_K [0, 0] 12 [(2, 40), (0, l1), (0, (e3_w32 (l2 + 1)))] [] (H) (G) (wZ L xs) (M := tbM240) rfl rfl trivial ?_
  exact hk12 _ _ _ _ h
set_option maxRecDepth 100000 in
set_option maxHeartbeats 4000000 in
theorem sM_judge_12 (L : Nat) (xs : Nat → Int32) (Q : e3_H → e3_G → Prop) (k2 : Int → e3_H → e3_G → Prop) (hk2 : ∀ (l1 : Int) (H : e3_H) (G : e3_G), k2 l1 H G → e3_Ev (wB L xs) 2 50 240 2 [(2, 40), (0, l1), (3, 0)] [] H G (e3_qv Q)) : ∀ (nl : Nat) (l1 : Int) (l2 : Int) (H : e3_H) (G : e3_G), wM_judge_12 Q k2 nl l1 l2 H G → e3_Ev (wB L xs) 2 50 240 12 [(2, 40), (0, l1), (0, l2)] [] H G (e3_qv Q) := by
  intro nl
  induction nl with
  | zero => intro l1 l2 H G h; exact h.elim
  | succ nn ih =>
    intro l1 l2 H G h
    have h : ((0 : Int) ≤ l1 ∧ (l1 : Int) < 12) ∧ (((l2 : Int) < (H 70 l1) → ((((H 40 7) : Int) = 0 → ((0 : Int) ≤ (e3_w32 ((e3_w32 (16 * l1)) + l2)) ∧ ((e3_w32 ((e3_w32 (16 * l1)) + l2)) : Int) < 192) ∧ ((((H 79 (e3_w32 ((e3_w32 (16 * l1)) + l2))) : Int) = 2 → (wM_judgeAnswer (fun H3 G4 => (wM_judge_54 Q k2 (fun l1 l2 H G => wM_judge_12 Q k2 nn l1 l2 H G) l1 l2 H3 G4)) (e3_w32 ((e3_w32 (16 * l1)) + l2)) H G)) ∧ (¬ (((H 79 (e3_w32 ((e3_w32 (16 * l1)) + l2))) : Int) = 2) → (wM_judge_54 Q k2 (fun l1 l2 H G => wM_judge_12 Q k2 nn l1 l2 H G) l1 l2 H G)))) ∧ (¬ (((H 40 7) : Int) = 0) → (wM_judge_60 Q k2 l1 H G)))) ∧ (¬ ((l2 : Int) < (H 70 l1)) → (wM_judge_60 Q k2 l1 H G))) := h
    obtain ⟨o1, h⟩ := h
    refine e3_K [0, 0, 4, 0, 2] 19 [(2, 40), (0, l1), (0, l2)] [(0, (H 70 l1)), (0, l2)] (H) (G) (wZ L xs) (M := tbM240) rfl rfl ⟨trivial, o1, trivial⟩ ?_
    refine e3_br (M := tbM240) rfl rfl rfl Iff.rfl (fun hc => ?_) (fun hc => ?_)
    · replace h := h.1 hc
      refine e3_K [0, 2] 26 [(2, 40), (0, l1), (0, l2)] [(0, (H 40 7))] (H) (G) (wZ L xs) (M := tbM240) rfl rfl ⟨trivial, trivial⟩ ?_
      refine e3_br (M := tbM240) rfl rfl rfl Iff.rfl (fun hc => ?_) (fun hc => ?_)
      · replace h := h.1 hc
        obtain ⟨o2, h⟩ := h
        refine e3_K [0, 4, 0, 0, 0, 0, 0, 2, 0] 41 [(2, 40), (0, l1), (0, l2)] [(0, 2), (0, (H 79 (e3_w32 ((e3_w32 (16 * l1)) + l2))))] (H) (G) (wZ L xs) (M := tbM240) rfl rfl ⟨trivial, o2, trivial⟩ ?_
        refine e3_br (M := tbM240) rfl rfl rfl Iff.rfl (fun hc => ?_) (fun hc => ?_)
        · replace h := h.1 hc
          refine e3_K [0, 0, 0, 0, 0, 0] 51 [(2, 40), (0, l1), (0, l2)] [(0, (e3_w32 ((e3_w32 (16 * l1)) + l2))), (2, 40)] (H) (G) (wZ L xs) (M := tbM240) rfl rfl trivial ?_
          refine e3_call (o := 0) (k := 241) (M2 := tbM241) (f1 := 1) (w1 := 24) (as := [(2, 40), (0, (e3_w32 ((e3_w32 (16 * l1)) + l2)))]) (rest := []) (M := tbM240) rfl rfl rfl trivial (Nat.le_of_ble_eq_true rfl) (Nat.le_of_ble_eq_true rfl) (Nat.le_of_ble_eq_true rfl) ?_
          refine e3_mono (sM_judgeAnswer L xs _ _ _ _ h) (fun r H3 G4 h => ?_)
          obtain ⟨rfl, h⟩ := h
          change e3_Ev _ _ _ _ 54 [(2, 40), (0, l1), (0, l2)] [] H3 G4 _
          exact sM_judge_54 L xs Q k2 hk2 (fun l1 l2 H G => wM_judge_12 Q k2 nn l1 l2 H G) ih _ _ _ _ h
        · replace h := h.2 hc
          exact sM_judge_54 L xs Q k2 hk2 (fun l1 l2 H G => wM_judge_12 Q k2 nn l1 l2 H G) ih _ _ _ _ h
      · replace h := h.2 hc
        refine e3_fgt [true, true, false] ?_
        exact sM_judge_60 L xs Q k2 hk2 _ _ _ h
    · replace h := h.2 hc
      refine e3_fgt [true, true, false] ?_
      exact sM_judge_60 L xs Q k2 hk2 _ _ _ h
set_option maxRecDepth 100000 in
set_option maxHeartbeats 4000000 in
theorem sM_judge_2 (L : Nat) (xs : Nat → Int32) (Q : e3_H → e3_G → Prop) : ∀ (nl : Nat) (l1 : Int) (H : e3_H) (G : e3_G), wM_judge_2 Q nl l1 H G → e3_Ev (wB L xs) 2 50 240 2 [(2, 40), (0, l1), (3, 0)] [] H G (e3_qv Q) := by
  intro nl
  induction nl with
  | zero => intro l1 H G h; exact h.elim
  | succ nn ih =>
    intro l1 H G h
    have h : (((l1 : Int) < (H 40 41) → (∃ n, wM_judge_12 Q (fun l1 H G => wM_judge_2 Q nn l1 H G) n l1 0 H G)) ∧ (¬ ((l1 : Int) < (H 40 41)) → (∃ n, wM_judge_68 Q n 0 H G))) := h
    refine e3_K [0, 0, 2] 7 [(2, 40), (0, l1), (3, 0)] [(0, (H 40 41)), (0, l1)] (H) (G) (wZ L xs) (M := tbM240) rfl rfl ⟨trivial, trivial⟩ ?_
    refine e3_br (M := tbM240) rfl rfl rfl Iff.rfl (fun hc => ?_) (fun hc => ?_)
    · replace h := h.1 hc
      refine e3_K [0, 0] 12 [(2, 40), (0, l1), (0, 0)] [] (H) (G) (wZ L xs) (M := tbM240) rfl rfl trivial ?_
      obtain ⟨nl, h⟩ := h
      exact sM_judge_12 L xs Q (fun l1 H G => wM_judge_2 Q nn l1 H G) ih nl _ _ _ _ h
    · replace h := h.2 hc
      refine e3_K [0, 0] 68 [(2, 40), (0, 0), (3, 0)] [] (H) (G) (wZ L xs) (M := tbM240) rfl rfl trivial ?_
      obtain ⟨nl, h⟩ := h
      exact sM_judge_68 L xs Q nl _ _ _ h
set_option maxRecDepth 100000 in
set_option maxHeartbeats 4000000 in
theorem sM_judge (L : Nat) (xs : Nat → Int32) (Q : e3_H → e3_G → Prop)  (H : e3_H) (G : e3_G) (h : wM_judge Q  H G) : e3_Ev (wB L xs) 2 50 240 0 [(2, 40), (3, 0), (3, 0)] [] H G (e3_qv Q) := by
  unfold wM_judge at h
  refine e3_K [0, 0] 2 [(2, 40), (0, 0), (3, 0)] [] (H) (G) (wZ L xs) (M := tbM240) rfl rfl trivial ?_
  obtain ⟨nl, h⟩ := h
  exact sM_judge_2 L xs Q nl _ _ _ h
/-- LetterPostModel.wait0(IIII)V -/
def wM_wait0 (Q : e3_H → e3_G → Prop) (l1 : Int) (l2 : Int) (l3 : Int) (l4 : Int) (H : e3_H) (G : e3_G) : Prop :=
  ((0 : Int) ≤ (H 40 71) ∧ ((H 40 71) : Int) < 2000) ∧ ∀ H1 : e3_H, H1 = e3_up H 94 (H 40 71) l1 → ((0 : Int) ≤ (H1 40 71) ∧ ((H1 40 71) : Int) < 2000) ∧ ∀ H3 : e3_H, H3 = e3_up H1 95 (H1 40 71) l2 → ((0 : Int) ≤ (H3 40 71) ∧ ((H3 40 71) : Int) < 2000) ∧ ∀ H5 : e3_H, H5 = e3_up H3 96 (H3 40 71) l3 → ((0 : Int) ≤ (H5 40 71) ∧ ((H5 40 71) : Int) < 2000) ∧ ∀ H7 : e3_H, H7 = e3_up H5 97 (H5 40 71) l4 → ∀ H9 : e3_H, H9 = e3_up H7 40 71 (e3_w32 ((H7 40 71) + 1)) → Q H9 G
set_option maxRecDepth 100000 in
set_option maxHeartbeats 4000000 in
theorem sM_wait0 (L : Nat) (xs : Nat → Int32) (Q : e3_H → e3_G → Prop) (l1 : Int) (l2 : Int) (l3 : Int) (l4 : Int) (H : e3_H) (G : e3_G) (h : wM_wait0 Q l1 l2 l3 l4 H G) : e3_Ev (wB L xs) 0 0 246 0 [(2, 40), (0, l1), (0, l2), (0, l3), (0, l4)] [] H G (e3_qv Q) := by
  unfold wM_wait0 at h
  obtain ⟨o2, h⟩ := h
  refine e3_K [0, 4, 0, 2, 0, 2] 10 [(2, 40), (0, l1), (0, l2), (0, l3), (0, l4)] [] (e3_up H 94 (H 40 71) l1) (G) (wZ L xs) (M := tbM246) rfl rfl ⟨trivial, trivial, o2, trivial⟩ ?_
  generalize hH1 : (e3_up H 94 (H 40 71) l1) = H1
  replace h := h H1 hH1.symm
  obtain ⟨o4, h⟩ := h
  refine e3_K [0, 4, 0, 2, 0, 2] 20 [(2, 40), (0, l1), (0, l2), (0, l3), (0, l4)] [] (e3_up H1 95 (H1 40 71) l2) (G) (wZ L xs) (M := tbM246) rfl rfl ⟨trivial, trivial, o4, trivial⟩ ?_
  generalize hH3 : (e3_up H1 95 (H1 40 71) l2) = H3
  replace h := h H3 hH3.symm
  obtain ⟨o6, h⟩ := h
  refine e3_K [0, 4, 0, 2, 0, 2] 30 [(2, 40), (0, l1), (0, l2), (0, l3), (0, l4)] [] (e3_up H3 96 (H3 40 71) l3) (G) (wZ L xs) (M := tbM246) rfl rfl ⟨trivial, trivial, o6, trivial⟩ ?_
  generalize hH5 : (e3_up H3 96 (H3 40 71) l3) = H5
  replace h := h H5 hH5.symm
  obtain ⟨o8, h⟩ := h
  refine e3_K [0, 4, 0, 2, 0, 2] 41 [(2, 40), (0, l1), (0, l2), (0, l3), (0, l4)] [] (e3_up H5 97 (H5 40 71) l4) (G) (wZ L xs) (M := tbM246) rfl rfl ⟨trivial, trivial, o8, trivial⟩ ?_
  generalize hH7 : (e3_up H5 97 (H5 40 71) l4) = H7
  replace h := h H7 hH7.symm
  refine e3_K [0, 0, 2, 0, 0, 2] 51 [(2, 40), (0, l1), (0, l2), (0, l3), (0, l4)] [] (e3_up H7 40 71 (e3_w32 ((H7 40 71) + 1))) (G) (wZ L xs) (M := tbM246) rfl rfl ⟨trivial, trivial, trivial⟩ ?_
  generalize hH9 : (e3_up H7 40 71 (e3_w32 ((H7 40 71) + 1))) = H9
  replace h := h H9 hH9.symm
  exact e3_retv (M := tbM246) rfl rfl rfl ⟨rfl, h⟩
