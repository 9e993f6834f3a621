/-- LetterPost$Sorter.hold(LLetterPost$Rule;JI)V -/
def wS_hold_31 (Q : e3_H → e3_G → Prop)  (H : e3_H) (G : e3_G) : Prop :=
  Q H G
def wS_hold (Q : e3_H → e3_G → Prop) (l1 : Int) (l2 : Int) (l4 : Int) (H : e3_H) (G : e3_G) : Prop :=
  (e3_ob G 9 l1) ∧ (wU_nameNumber (fun x3 H1 G2 => (((x3 : Int) < 0 → (wS_hold_31 Q H1 G2)) ∧ (¬ ((x3 : Int) < 0) → (((x3 : Int) < 8 → ((0 : Int) ≤ x3 ∧ (x3 : Int) < 8) ∧ ∀ H4 : e3_H, H4 = e3_up H1 36 x3 l4 → (wS_hold_31 Q H4 G2)) ∧ (¬ ((x3 : Int) < 8) → (wS_hold_31 Q H1 G2)))))) l1 l2 H G)
set_option maxRecDepth 100000 in
set_option maxHeartbeats 4000000 in
theorem sS_hold_31 (L : Nat) (xs : Nat → Int32) (Q : e3_H → e3_G → Prop)  (H : e3_H) (G : e3_G) (h : wS_hold_31 Q  H G) : e3_Ev (wB L xs) 1 23 186 31 [(3, 0), (3, 0), (3, 0), (3, 0), (3, 0), (3, 0)] [] H G (e3_qv Q) := by
  unfold wS_hold_31 at h
  exact e3_retv (M := tbM186) rfl rfl rfl ⟨rfl, h⟩
set_option maxRecDepth 100000 in
set_option maxHeartbeats 4000000 in
theorem sS_hold (L : Nat) (xs : Nat → Int32) (Q : e3_H → e3_G → Prop) (l1 : Int) (l2 : Int) (l4 : Int) (H : e3_H) (G : e3_G) (h : wS_hold Q l1 l2 l4 H G) : e3_Ev (wB L xs) 1 23 186 0 [(2, 34), (2, l1), (1, l2), (3, 0), (0, l4), (3, 0)] [] H G (e3_qv Q) := by
  unfold wS_hold at h
  refine e3_K [0, 0] 2 [(2, 34), (2, l1), (1, l2), (3, 0), (0, l4), (3, 0)] [(1, l2), (2, l1)] (H) (G) (wZ L xs) (M := tbM186) rfl rfl trivial ?_
  obtain ⟨oz, h⟩ := h
  refine e3_call (o := 1) (k := 52) (M2 := tbM52) (f1 := 0) (w1 := 0) (as := [(2, l1), (1, l2)]) (rest := []) (M := tbM186) rfl rfl rfl oz (Nat.le_of_ble_eq_true rfl) (Nat.le_of_ble_eq_true rfl) (Nat.le_of_ble_eq_true rfl) ?_
  refine e3_mono (sU_nameNumber L xs _ _ _ _ _ h) (fun r H1 G2 h => ?_)
  obtain ⟨x3, rfl, h⟩ := h
  change e3_Ev _ _ _ _ 5 [(2, 34), (2, l1), (1, l2), (3, 0), (0, l4), (3, 0)] [(0, x3)] H1 G2 _
  refine e3_K [0, 0] 9 [(2, 34), (2, l1), (1, l2), (3, 0), (0, l4), (0, x3)] [(0, x3)] (H1) (G2) (wZ L xs) (M := tbM186) rfl rfl trivial ?_
  refine e3_br (M := tbM186) rfl rfl rfl Iff.rfl (fun hc => ?_) (fun hc => ?_)
  · replace h := h.1 hc
    refine e3_fgt [false, false, false, false, false, false] ?_
    exact sS_hold_31 L xs Q _ _ h
  · replace h := h.2 hc
    refine e3_K [0, 0, 4, 2] 19 [(2, 34), (2, l1), (1, l2), (3, 0), (0, l4), (0, x3)] [(0, 8), (0, x3)] (H1) (G2) (wZ L xs) (M := tbM186) rfl rfl ⟨trivial, (by decide), trivial⟩ ?_
    refine e3_br (M := tbM186) rfl rfl rfl Iff.rfl (fun hc => ?_) (fun hc => ?_)
    · replace h := h.1 hc
      obtain ⟨o5, h⟩ := h
      refine e3_K [0, 4, 0, 0, 2] 31 [(2, 34), (2, l1), (1, l2), (3, 0), (0, l4), (0, x3)] [] (e3_up H1 36 x3 l4) (G2) (wZ L xs) (M := tbM186) rfl rfl ⟨trivial, o5, trivial⟩ ?_
      generalize hH4 : (e3_up H1 36 x3 l4) = H4
      replace h := h H4 hH4.symm
      refine e3_fgt [false, false, false, false, false, false] ?_
      exact sS_hold_31 L xs Q _ _ h
    · replace h := h.2 hc
      refine e3_fgt [false, false, false, false, false, false] ?_
      exact sS_hold_31 L xs Q _ _ h
/-- LetterPost$Sorter.anyFits(LLetterPost$Rule;LLetterPost$Pattern;II)Z -/
def wS_anyFits_6 (R : Int → Int → Int → Int → e3_H → e3_G → (Int → e3_H → e3_G → Prop) → Prop) (Q : Int → e3_H → e3_G → Prop) : Nat → Int → Int → Int → Int → e3_H → e3_G → Prop
  | 0, _, _, _, _, _, _ => False
  | nn + 1, l1, l3, l4, l5, H, G => (((l5 : Int) < 0 → Q 0 H G) ∧ (¬ ((l5 : Int) < 0) → (R l1 l5 l3 l4 H G (fun x3 H1 G2 => (((x3 : Int) = 0 → (e3_ob G2 10 l5) ∧ (wS_anyFits_6 R Q nn l1 l3 l4 (H1 l5 8) H1 G2)) ∧ (¬ ((x3 : Int) = 0) → Q 1 H1 G2))))))
def wS_anyFits (R : Int → Int → Int → Int → e3_H → e3_G → (Int → e3_H → e3_G → Prop) → Prop) (Q : Int → e3_H → e3_G → Prop) (l1 : Int) (l2 : Int) (l3 : Int) (l4 : Int) (H : e3_H) (G : e3_G) : Prop :=
  (e3_ob G 10 l2) ∧ (∃ n, wS_anyFits_6 R Q n l1 l3 l4 (H l2 7) H G)
set_option maxRecDepth 100000 in
set_option maxHeartbeats 4000000 in
theorem sS_anyFits_6 (L : Nat) (xs : Nat → Int32) (n : Nat) (R : Int → Int → Int → Int → e3_H → e3_G → (Int → e3_H → e3_G → Prop) → Prop) (hR : ∀ (l1 : Int) (l2 : Int) (l3 : Int) (l4 : Int) (H : e3_H) (G : e3_G) (Q : Int → e3_H → e3_G → Prop), R l1 l2 l3 l4 H G Q → e3_Ev (wB L xs) (3 + 3 * n) (67 + 69 * n) 185 0 [(2, 34), (2, l1), (2, l2), (0, l3), (0, l4)] [] H G (e3_q0 Q)) (Q : Int → e3_H → e3_G → Prop) : ∀ (nl : Nat) (l1 : Int) (l3 : Int) (l4 : Int) (l5 : Int) (H : e3_H) (G : e3_G), wS_anyFits_6 R Q nl l1 l3 l4 l5 H G → e3_Ev (wB L xs) (4 + 3 * n) (91 + 69 * n) 187 6 [(2, 34), (2, l1), (3, 0), (0, l3), (0, l4), (2, l5)] [] H G (e3_q0 Q) := by
  intro nl
  induction nl with
  | zero => intro l1 l3 l4 l5 H G h; exact h.elim
  | succ nn ih =>
    intro l1 l3 l4 l5 H G h
    have h : (((l5 : Int) < 0 → Q 0 H G) ∧ (¬ ((l5 : Int) < 0) → (R l1 l5 l3 l4 H G (fun x3 H1 G2 => (((x3 : Int) = 0 → (e3_ob G2 10 l5) ∧ (wS_anyFits_6 R Q nn l1 l3 l4 (H1 l5 8) H1 G2)) ∧ (¬ ((x3 : Int) = 0) → Q 1 H1 G2)))))) := h
    refine e3_K [0] 8 [(2, 34), (2, l1), (3, 0), (0, l3), (0, l4), (2, l5)] [(2, l5)] (H) (G) (wZ L xs) (M := tbM187) rfl rfl trivial ?_
    refine e3_br (M := tbM187) rfl rfl rfl Iff.rfl (fun hc => ?_) (fun hc => ?_)
    · replace h := h.1 hc
      refine e3_K [0] 37 [(2, 34), (2, l1), (3, 0), (0, l3), (0, l4), (2, l5)] [(0, 0)] (H) (G) (wZ L xs) (M := tbM187) rfl rfl trivial ?_
      exact e3_retb (M := tbM187) rfl rfl rfl (Or.inl rfl) ⟨_, rfl, h⟩
    · replace h := h.2 hc
      refine e3_K [0, 0, 0, 0, 0] 18 [(2, 34), (2, l1), (3, 0), (0, l3), (0, l4), (2, l5)] [(0, l4), (0, l3), (2, l5), (2, l1), (2, 34)] (H) (G) (wZ L xs) (M := tbM187) rfl rfl trivial ?_
      refine e3_call (o := 0) (k := 185) (M2 := tbM185) (f1 := (3 + 3 * n)) (w1 := (67 + 69 * n)) (as := [(2, 34), (2, l1), (2, l5), (0, l3), (0, l4)]) (rest := []) (M := tbM187) rfl rfl rfl trivial (by omega) (by show (67 + 69 * n) + (19 + 5) ≤ (91 + 69 * n); omega) (Nat.le_of_ble_eq_true rfl) ?_
      refine e3_mono (hR _ _ _ _ _ _ _ h) (fun r H1 G2 h => ?_)
      obtain ⟨x3, rfl, h⟩ := h
      change e3_Ev _ _ _ _ 21 [(2, 34), (2, l1), (3, 0), (0, l3), (0, l4), (2, l5)] [(0, x3)] H1 G2 _
      refine e3_br (M := tbM187) rfl rfl rfl Iff.rfl (fun hc => ?_) (fun hc => ?_)
      · replace h := h.1 hc
        obtain ⟨o4, h⟩ := h
        refine e3_K [0, 3, 0, 0] 6 [(2, 34), (2, l1), (3, 0), (0, l3), (0, l4), (2, (H1 l5 8))] [] (H1) (G2) (wZ L xs) (M := tbM187) rfl rfl ⟨o4, trivial⟩ ?_
        exact ih _ _ _ _ _ _ h
      · replace h := h.2 hc
        refine e3_K [0] 25 [(2, 34), (2, l1), (3, 0), (0, l3), (0, l4), (2, l5)] [(0, 1)] (H1) (G2) (wZ L xs) (M := tbM187) rfl rfl trivial ?_
        exact e3_retb (M := tbM187) rfl rfl rfl (Or.inr rfl) ⟨_, rfl, h⟩
set_option maxRecDepth 100000 in
set_option maxHeartbeats 4000000 in
theorem sS_anyFits (L : Nat) (xs : Nat → Int32) (n : Nat) (R : Int → Int → Int → Int → e3_H → e3_G → (Int → e3_H → e3_G → Prop) → Prop) (hR : ∀ (l1 : Int) (l2 : Int) (l3 : Int) (l4 : Int) (H : e3_H) (G : e3_G) (Q : Int → e3_H → e3_G → Prop), R l1 l2 l3 l4 H G Q → e3_Ev (wB L xs) (3 + 3 * n) (67 + 69 * n) 185 0 [(2, 34), (2, l1), (2, l2), (0, l3), (0, l4)] [] H G (e3_q0 Q)) (Q : Int → e3_H → e3_G → Prop) (l1 : Int) (l2 : Int) (l3 : Int) (l4 : Int) (H : e3_H) (G : e3_G) (h : wS_anyFits R Q l1 l2 l3 l4 H G) : e3_Ev (wB L xs) (4 + 3 * n) (91 + 69 * n) 187 0 [(2, 34), (2, l1), (2, l2), (0, l3), (0, l4), (3, 0)] [] H G (e3_q0 Q) := by
  unfold wS_anyFits at h
  obtain ⟨o1, h⟩ := h
  refine e3_K [0, 3, 0] 6 [(2, 34), (2, l1), (2, l2), (0, l3), (0, l4), (2, (H l2 7))] [] (H) (G) (wZ L xs) (M := tbM187) rfl rfl ⟨o1, trivial⟩ ?_
  refine e3_fgt [true, true, false, true, true, true] ?_
  obtain ⟨nl, h⟩ := h
  exact sS_anyFits_6 L xs n R hR Q nl _ _ _ _ _ _ h
/-- LetterPost$Sorter.partsFit(LLetterPost$Rule;LLetterPost$Pattern;II)Z -/
def wS_partsFit_9 (R : Int → Int → Int → Int → e3_H → e3_G → (Int → e3_H → e3_G → Prop) → Prop) (Q : Int → e3_H → e3_G → Prop) : Nat → Int → Int → Int → Int → Int → e3_H → e3_G → Prop
  | 0, _, _, _, _, _, _, _ => False
  | nn + 1, l1, l3, l4, l5, l6, H, G => (((l6 : Int) < 0 → Q 1 H G) ∧ (¬ ((l6 : Int) < 0) → (wL_part (fun x3 H1 G2 => (R l1 l6 x3 l4 H1 G2 (fun x6 H4 G5 => (((x6 : Int) = 0 → Q 0 H4 G5) ∧ (¬ ((x6 : Int) = 0) → (e3_ob G5 10 l6) ∧ (wS_partsFit_9 R Q nn l1 l3 l4 (e3_w32 (l5 + 1)) (H4 l6 8) H4 G5)))))) l3 l5 H G)))
def wS_partsFit (R : Int → Int → Int → Int → e3_H → e3_G → (Int → e3_H → e3_G → Prop) → Prop) (Q : Int → e3_H → e3_G → Prop) (l1 : Int) (l2 : Int) (l3 : Int) (l4 : Int) (H : e3_H) (G : e3_G) : Prop :=
  (e3_ob G 10 l2) ∧ (∃ n, wS_partsFit_9 R Q n l1 l3 l4 0 (H l2 7) H G)
set_option maxRecDepth 100000 in
set_option maxHeartbeats 4000000 in
theorem sS_partsFit_9 (L : Nat) (xs : Nat → Int32) (n : Nat) (R : Int → Int → Int → Int → e3_H → e3_G → (Int → e3_H → e3_G → Prop) → Prop) (hR : ∀ (l1 : Int) (l2 : Int) (l3 : Int) (l4 : Int) (H : e3_H) (G : e3_G) (Q : Int → e3_H → e3_G → Prop), R l1 l2 l3 l4 H G Q → e3_Ev (wB L xs) (3 + 3 * n) (67 + 69 * n) 185 0 [(2, 34), (2, l1), (2, l2), (0, l3), (0, l4)] [] H G (e3_q0 Q)) (Q : Int → e3_H → e3_G → Prop) : ∀ (nl : Nat) (l1 : Int) (l3 : Int) (l4 : Int) (l5 : Int) (l6 : Int) (H : e3_H) (G : e3_G), wS_partsFit_9 R Q nl l1 l3 l4 l5 l6 H G → e3_Ev (wB L xs) (4 + 3 * n) (91 + 69 * n) 188 9 [(2, 34), (2, l1), (3, 0), (0, l3), (0, l4), (0, l5), (2, l6)] [] H G (e3_q0 Q) := by
  intro nl
  induction nl with
  | zero => intro l1 l3 l4 l5 l6 H G h; exact h.elim
  | succ nn ih =>
    intro l1 l3 l4 l5 l6 H G h
    have h : (((l6 : Int) < 0 → Q 1 H G) ∧ (¬ ((l6 : Int) < 0) → (wL_part (fun x3 H1 G2 => (R l1 l6 x3 l4 H1 G2 (fun x6 H4 G5 => (((x6 : Int) = 0 → Q 0 H4 G5) ∧ (¬ ((x6 : Int) = 0) → (e3_ob G5 10 l6) ∧ (wS_partsFit_9 R Q nn l1 l3 l4 (e3_w32 (l5 + 1)) (H4 l6 8) H4 G5)))))) l3 l5 H G))) := h
    refine e3_K [0] 11 [(2, 34), (2, l1), (3, 0), (0, l3), (0, l4), (0, l5), (2, l6)] [(2, l6)] (H) (G) (wZ L xs) (M := tbM188) rfl rfl trivial ?_
    refine e3_br (M := tbM188) rfl rfl rfl Iff.rfl (fun hc => ?_) (fun hc => ?_)
    · replace h := h.1 hc
      refine e3_K [0] 52 [(2, 34), (2, l1), (3, 0), (0, l3), (0, l4), (0, l5), (2, l6)] [(0, 1)] (H) (G) (wZ L xs) (M := tbM188) rfl rfl trivial ?_
      exact e3_retb (M := tbM188) rfl rfl rfl (Or.inr rfl) ⟨_, rfl, h⟩
    · replace h := h.2 hc
      refine e3_K [0, 0, 0, 0, 4, 0, 0] 25 [(2, 34), (2, l1), (3, 0), (0, l3), (0, l4), (0, l5), (2, l6)] [(0, l5), (0, l3), (2, 26), (2, l6), (2, l1), (2, 34)] (H) (G) (wZ L xs) (M := tbM188) rfl rfl ⟨trivial, trivial⟩ ?_
      refine e3_call (o := 0) (k := 165) (M2 := tbM165) (f1 := 0) (w1 := 0) (as := [(2, 26), (0, l3), (0, l5)]) (rest := [(2, l6), (2, l1), (2, 34)]) (M := tbM188) rfl rfl rfl trivial (by omega) (by show 0 + (19 + 4) ≤ (91 + 69 * n); omega) (Nat.le_of_ble_eq_true rfl) ?_
      refine e3_mono (sL_part L xs _ _ _ _ _ h) (fun r H1 G2 h => ?_)
      obtain ⟨x3, rfl, h⟩ := h
      change e3_Ev _ _ _ _ 28 [(2, 34), (2, l1), (3, 0), (0, l3), (0, l4), (0, l5), (2, l6)] [(0, x3), (2, l6), (2, l1), (2, 34)] H1 G2 _
      refine e3_K [0] 30 [(2, 34), (2, l1), (3, 0), (0, l3), (0, l4), (0, l5), (2, l6)] [(0, l4), (0, x3), (2, l6), (2, l1), (2, 34)] (H1) (G2) (wZ L xs) (M := tbM188) rfl rfl trivial ?_
      refine e3_call (o := 0) (k := 185) (M2 := tbM185) (f1 := (3 + 3 * n)) (w1 := (67 + 69 * n)) (as := [(2, 34), (2, l1), (2, l6), (0, x3), (0, l4)]) (rest := []) (M := tbM188) rfl rfl rfl trivial (by omega) (by show (67 + 69 * n) + (19 + 5) ≤ (91 + 69 * n); omega) (Nat.le_of_ble_eq_true rfl) ?_
      refine e3_mono (hR _ _ _ _ _ _ _ h) (fun r H4 G5 h => ?_)
      obtain ⟨x6, rfl, h⟩ := h
      change e3_Ev _ _ _ _ 33 [(2, 34), (2, l1), (3, 0), (0, l3), (0, l4), (0, l5), (2, l6)] [(0, x6)] H4 G5 _
      refine e3_br (M := tbM188) rfl rfl rfl Iff.rfl (fun hc => ?_) (fun hc => ?_)
      · replace h := h.1 hc
        refine e3_K [0] 37 [(2, 34), (2, l1), (3, 0), (0, l3), (0, l4), (0, l5), (2, l6)] [(0, 0)] (H4) (G5) (wZ L xs) (M := tbM188) rfl rfl trivial ?_
        exact e3_retb (M := tbM188) rfl rfl rfl (Or.inl rfl) ⟨_, rfl, h⟩
      · replace h := h.2 hc
        obtain ⟨o7, h⟩ := h
        refine e3_K [0, 0, 3, 0, 0] 9 [(2, 34), (2, l1), (3, 0), (0, l3), (0, l4), (0, (e3_w32 (l5 + 1))), (2, (H4 l6 8))] [] (H4) (G5) (wZ L xs) (M := tbM188) rfl rfl ⟨o7, trivial⟩ ?_
        exact ih _ _ _ _ _ _ _ h
set_option maxRecDepth 100000 in
set_option maxHeartbeats 4000000 in
theorem sS_partsFit (L : Nat) (xs : Nat → Int32) (n : Nat) (R : Int → Int → Int → Int → e3_H → e3_G → (Int → e3_H → e3_G → Prop) → Prop) (hR : ∀ (l1 : Int) (l2 : Int) (l3 : Int) (l4 : Int) (H : e3_H) (G : e3_G) (Q : Int → e3_H → e3_G → Prop), R l1 l2 l3 l4 H G Q → e3_Ev (wB L xs) (3 + 3 * n) (67 + 69 * n) 185 0 [(2, 34), (2, l1), (2, l2), (0, l3), (0, l4)] [] H G (e3_q0 Q)) (Q : Int → e3_H → e3_G → Prop) (l1 : Int) (l2 : Int) (l3 : Int) (l4 : Int) (H : e3_H) (G : e3_G) (h : wS_partsFit R Q l1 l2 l3 l4 H G) : e3_Ev (wB L xs) (4 + 3 * n) (91 + 69 * n) 188 0 [(2, 34), (2, l1), (2, l2), (0, l3), (0, l4), (3, 0), (3, 0)] [] H G (e3_q0 Q) := by
  unfold wS_partsFit at h
  obtain ⟨o1, h⟩ := h
  refine e3_K [0, 0, 0, 3, 0] 9 [(2, 34), (2, l1), (2, l2), (0, l3), (0, l4), (0, 0), (2, (H l2 7))] [] (H) (G) (wZ L xs) (M := tbM188) rfl rfl ⟨o1, trivial⟩ ?_
  refine e3_fgt [true, true, false, true, true, true, true] ?_
  obtain ⟨nl, h⟩ := h
  exact sS_partsFit_9 L xs n R hR Q nl _ _ _ _ _ _ _ h
/-- LetterPost$Sorter.fits(LLetterPost$Rule;LLetterPost$Pattern;II)Z -/
def wS_fits_18 (R : Int → Int → Int → Int → e3_H → e3_G → (Int → e3_H → e3_G → Prop) → Prop) (Q : Int → e3_H → e3_G → Prop)  (H : e3_H) (G : e3_G) : Prop :=
  Q 0 H G
def wS_fits_125 (R : Int → Int → Int → Int → e3_H → e3_G → (Int → e3_H → e3_G → Prop) → Prop) (Q : Int → e3_H → e3_G → Prop) (s0 : Int) (H : e3_H) (G : e3_G) : Prop :=
  ((s0 : Int) = 0 ∨ s0 = 1) ∧ Q s0 H G
def wS_fits_124 (R : Int → Int → Int → Int → e3_H → e3_G → (Int → e3_H → e3_G → Prop) → Prop) (Q : Int → e3_H → e3_G → Prop)  (H : e3_H) (G : e3_G) : Prop :=
  (wS_fits_125 R Q 0 H G)
def wS_fits : Nat → Int → Int → Int → Int → e3_H → e3_G → (Int → e3_H → e3_G → Prop) → Prop
  | 0, _, _, _, _, _, _, _ => False
  | n + 1, l1, l2, l3, l4, H, G, Q => (((6 : Int) < l4 → (wS_fits_18 (wS_fits n) Q H G)) ∧ (¬ ((6 : Int) < l4) → (wL_has (fun x3 H1 G2 => (((x3 : Int) = 0 → (wS_fits_18 (wS_fits n) Q H1 G2)) ∧ (¬ ((x3 : Int) = 0) → (e3_ob G2 10 l2) ∧ (wS_hold (fun H5 G6 => (e3_ob G6 10 l2) ∧ (wS_hold (fun H9 G10 => (e3_ob G10 10 l2) ∧ ((((H9 l2 0) : Int) = 0 → Q 1 H9 G10) ∧ (((H9 l2 0) : Int) = 3 → (wS_anyFits (wS_fits n) (fun x15 H13 G14 => ((x15 : Int) = 0 ∨ x15 = 1) ∧ Q x15 H13 G14) l1 l2 l3 (e3_w32 (l4 + 1)) H9 G10)) ∧ (¬ ((H9 l2 0) : Int) = 0 ∧ ¬ ((H9 l2 0) : Int) = 3 → ((0 : Int) ≤ l3 ∧ (l3 : Int) < 160) ∧ (wK_holds (fun x19 H17 G18 => (((x19 : Int) = 0 → (wS_fits_124 (wS_fits n) Q H17 G18)) ∧ (¬ ((x19 : Int) = 0) → (wS_partsFit (wS_fits n) (fun x22 H20 G21 => (((x22 : Int) = 0 → (wS_fits_124 (wS_fits n) Q H20 G21)) ∧ (¬ ((x22 : Int) = 0) → (wS_fits_125 (wS_fits n) Q 1 H20 G21)))) l1 l2 l3 (e3_w32 (l4 + 1)) H17 G18)))) l2 (H9 28 l3) H9 G10)))) l1 (H5 l2 6) l3 H5 G6)) l1 (H1 l2 5) l3 H1 G2)))) l3 H G)))
set_option maxRecDepth 100000 in
set_option maxHeartbeats 4000000 in
theorem sS_fits_18 (L : Nat) (xs : Nat → Int32) (n : Nat) (R : Int → Int → Int → Int → e3_H → e3_G → (Int → e3_H → e3_G → Prop) → Prop) (hR : ∀ (l1 : Int) (l2 : Int) (l3 : Int) (l4 : Int) (H : e3_H) (G : e3_G) (Q : Int → e3_H → e3_G → Prop), R l1 l2 l3 l4 H G Q → e3_Ev (wB L xs) (3 + 3 * n) (67 + 69 * n) 185 0 [(2, 34), (2, l1), (2, l2), (0, l3), (0, l4)] [] H G (e3_q0 Q)) (Q : Int → e3_H → e3_G → Prop)  (H : e3_H) (G : e3_G) (h : wS_fits_18 R Q  H G) : e3_Ev (wB L xs) (3 + 3 * (n + 1)) (67 + 69 * (n + 1)) 185 18 [(3, 0), (3, 0), (3, 0), (3, 0), (3, 0)] [] H G (e3_q0 Q) := by
  unfold wS_fits_18 at h
  refine e3_K [0] 19 [(3, 0), (3, 0), (3, 0), (3, 0), (3, 0)] [(0, 0)] (H) (G) (wZ L xs) (M := tbM185) rfl rfl trivial ?_
  exact e3_retb (M := tbM185) rfl rfl rfl (Or.inl rfl) ⟨_, rfl, h⟩
set_option maxRecDepth 100000 in
set_option maxHeartbeats 4000000 in
theorem sS_fits_125 (L : Nat) (xs : Nat → Int32) (n : Nat) (R : Int → Int → Int → Int → e3_H → e3_G → (Int → e3_H → e3_G → Prop) → Prop) (hR : ∀ (l1 : Int) (l2 : Int) (l3 : Int) (l4 : Int) (H : e3_H) (G : e3_G) (Q : Int → e3_H → e3_G → Prop), R l1 l2 l3 l4 H G Q → e3_Ev (wB L xs) (3 + 3 * n) (67 + 69 * n) 185 0 [(2, 34), (2, l1), (2, l2), (0, l3), (0, l4)] [] H G (e3_q0 Q)) (Q : Int → e3_H → e3_G → Prop) (s0 : Int) (H : e3_H) (G : e3_G) (h : wS_fits_125 R Q s0 H G) : e3_Ev (wB L xs) (3 + 3 * (n + 1)) (67 + 69 * (n + 1)) 185 125 [(3, 0), (3, 0), (3, 0), (3, 0), (3, 0)] [(0, s0)] H G (e3_q0 Q) := by
  unfold wS_fits_125 at h
  exact e3_retb (M := tbM185) rfl rfl rfl h.1 ⟨_, rfl, h.2⟩
set_option maxRecDepth 100000 in
set_option maxHeartbeats 4000000 in
theorem sS_fits_124 (L : Nat) (xs : Nat → Int32) (n : Nat) (R : Int → Int → Int → Int → e3_H → e3_G → (Int → e3_H → e3_G → Prop) → Prop) (hR : ∀ (l1 : Int) (l2 : Int) (l3 : Int) (l4 : Int) (H : e3_H) (G : e3_G) (Q : Int → e3_H → e3_G → Prop), R l1 l2 l3 l4 H G Q → e3_Ev (wB L xs) (3 + 3 * n) (67 + 69 * n) 185 0 [(2, 34), (2, l1), (2, l2), (0, l3), (0, l4)] [] H G (e3_q0 Q)) (Q : Int → e3_H → e3_G → Prop)  (H : e3_H) (G : e3_G) (h : wS_fits_124 R Q  H G) : e3_Ev (wB L xs) (3 + 3 * (n + 1)) (67 + 69 * (n + 1)) 185 124 [(3, 0), (3, 0), (3, 0), (3, 0), (3, 0)] [] H G (e3_q0 Q) := by
  unfold wS_fits_124 at h
  refine e3_K [0] 125 [(3, 0), (3, 0), (3, 0), (3, 0), (3, 0)] [(0, 0)] (H) (G) (wZ L xs) (M := tbM185) rfl rfl trivial ?_
  exact sS_fits_125 L xs n R hR Q _ _ _ h
set_option maxRecDepth 100000 in
set_option maxHeartbeats 4000000 in
theorem sS_fits (L : Nat) (xs : Nat → Int32) : ∀ (n : Nat) (l1 : Int) (l2 : Int) (l3 : Int) (l4 : Int) (H : e3_H) (G : e3_G) (Q : Int → e3_H → e3_G → Prop), wS_fits n l1 l2 l3 l4 H G Q → e3_Ev (wB L xs) (3 + 3 * n) (67 + 69 * n) 185 0 [(2, 34), (2, l1), (2, l2), (0, l3), (0, l4)] [] H G (e3_q0 Q) := by
  intro n
  induction n with
  | zero => intro l1 l2 l3 l4 H G Q h; exact h.elim
  | succ n hR =>
    intro l1 l2 l3 l4 H G Q h
    have h : (((6 : Int) < l4 → (wS_fits_18 (wS_fits n) Q H G)) ∧ (¬ ((6 : Int) < l4) → (wL_has (fun x3 H1 G2 => (((x3 : Int) = 0 → (wS_fits_18 (wS_fits n) Q H1 G2)) ∧ (¬ ((x3 : Int) = 0) → (e3_ob G2 10 l2) ∧ (wS_hold (fun H5 G6 => (e3_ob G6 10 l2) ∧ (wS_hold (fun H9 G10 => (e3_ob G10 10 l2) ∧ ((((H9 l2 0) : Int) = 0 → Q 1 H9 G10) ∧ (((H9 l2 0) : Int) = 3 → (wS_anyFits (wS_fits n) (fun x15 H13 G14 => ((x15 : Int) = 0 ∨ x15 = 1) ∧ Q x15 H13 G14) l1 l2 l3 (e3_w32 (l4 + 1)) H9 G10)) ∧ (¬ ((H9 l2 0) : Int) = 0 ∧ ¬ ((H9 l2 0) : Int) = 3 → ((0 : Int) ≤ l3 ∧ (l3 : Int) < 160) ∧ (wK_holds (fun x19 H17 G18 => (((x19 : Int) = 0 → (wS_fits_124 (wS_fits n) Q H17 G18)) ∧ (¬ ((x19 : Int) = 0) → (wS_partsFit (wS_fits n) (fun x22 H20 G21 => (((x22 : Int) = 0 → (wS_fits_124 (wS_fits n) Q H20 G21)) ∧ (¬ ((x22 : Int) = 0) → (wS_fits_125 (wS_fits n) Q 1 H20 G21)))) l1 l2 l3 (e3_w32 (l4 + 1)) H17 G18)))) l2 (H9 28 l3) H9 G10)))) l1 (H5 l2 6) l3 H5 G6)) l1 (H1 l2 5) l3 H1 G2)))) l3 H G))) := h
    generalize hRR : wS_fits n = R at hR h
    refine e3_K [0, 0] 4 [(2, 34), (2, l1), (2, l2), (0, l3), (0, l4)] [(0, 6), (0, l4)] (H) (G) (wZ L xs) (M := tbM185) rfl rfl trivial ?_
    refine e3_br (M := tbM185) rfl rfl rfl Iff.rfl (fun hc => ?_) (fun hc => ?_)
    · replace h := h.1 hc
      refine e3_fgt [false, false, false, false, false] ?_
      exact sS_fits_18 L xs n R hR Q _ _ h
    · replace h := h.2 hc
      refine e3_K [0, 4, 0] 12 [(2, 34), (2, l1), (2, l2), (0, l3), (0, l4)] [(0, l3), (2, 26)] (H) (G) (wZ L xs) (M := tbM185) rfl rfl ⟨trivial, trivial⟩ ?_
      refine e3_call (o := 0) (k := 160) (M2 := tbM160) (f1 := 0) (w1 := 0) (as := [(2, 26), (0, l3)]) (rest := []) (M := tbM185) rfl rfl rfl trivial (by omega) (by show 0 + (19 + 2) ≤ (67 + 69 * (n + 1)); omega) (Nat.le_of_ble_eq_true rfl) ?_
      refine e3_mono (sL_has L xs _ _ _ _ h) (fun r H1 G2 h => ?_)
      obtain ⟨x3, rfl, h⟩ := h
      change e3_Ev _ _ _ _ 15 [(2, 34), (2, l1), (2, l2), (0, l3), (0, l4)] [(0, x3)] H1 G2 _
      refine e3_br (M := tbM185) rfl rfl rfl Iff.rfl (fun hc => ?_) (fun hc => ?_)
      · replace h := h.1 hc
        refine e3_fgt [false, false, false, false, false] ?_
        exact sS_fits_18 L xs n R hR Q _ _ h
      · replace h := h.2 hc
        obtain ⟨o4, h⟩ := h
        refine e3_K [0, 0, 0, 3, 0] 27 [(2, 34), (2, l1), (2, l2), (0, l3), (0, l4)] [(0, l3), (1, (H1 l2 5)), (2, l1), (2, 34)] (H1) (G2) (wZ L xs) (M := tbM185) rfl rfl ⟨o4, trivial⟩ ?_
        refine e3_call (o := 0) (k := 186) (M2 := tbM186) (f1 := 1) (w1 := 23) (as := [(2, 34), (2, l1), (1, (H1 l2 5)), (0, l3)]) (rest := []) (M := tbM185) rfl rfl rfl trivial (by omega) (by show 23 + (19 + 6) ≤ (67 + 69 * (n + 1)); omega) (Nat.le_of_ble_eq_true rfl) ?_
        refine e3_mono (sS_hold L xs _ _ _ _ _ _ h) (fun r H5 G6 h => ?_)
        obtain ⟨rfl, h⟩ := h
        change e3_Ev _ _ _ _ 30 [(2, 34), (2, l1), (2, l2), (0, l3), (0, l4)] [] H5 G6 _
        obtain ⟨o8, h⟩ := h
        refine e3_K [0, 0, 0, 3, 0] 37 [(2, 34), (2, l1), (2, l2), (0, l3), (0, l4)] [(0, l3), (1, (H5 l2 6)), (2, l1), (2, 34)] (H5) (G6) (wZ L xs) (M := tbM185) rfl rfl ⟨o8, trivial⟩ ?_
        refine e3_call (o := 0) (k := 186) (M2 := tbM186) (f1 := 1) (w1 := 23) (as := [(2, 34), (2, l1), (1, (H5 l2 6)), (0, l3)]) (rest := []) (M := tbM185) rfl rfl rfl trivial (by omega) (by show 23 + (19 + 6) ≤ (67 + 69 * (n + 1)); omega) (Nat.le_of_ble_eq_true rfl) ?_
        refine e3_mono (sS_hold L xs _ _ _ _ _ _ h) (fun r H9 G10 h => ?_)
        obtain ⟨rfl, h⟩ := h
        change e3_Ev _ _ _ _ 40 [(2, 34), (2, l1), (2, l2), (0, l3), (0, l4)] [] H9 G10 _
        obtain ⟨o12, h⟩ := h
        refine e3_K [0, 3] 44 [(2, 34), (2, l1), (2, l2), (0, l3), (0, l4)] [(0, (H9 l2 0))] (H9) (G10) (wZ L xs) (M := tbM185) rfl rfl ⟨o12, trivial⟩ ?_
        by_cases hc0 : ((H9 l2 0) : Int) = 0
        · replace h := h.1 hc0
          refine e3_sw (M := tbM185) rfl rfl hc0 rfl ?_
          refine e3_K [0] 73 [(2, 34), (2, l1), (2, l2), (0, l3), (0, l4)] [(0, 1)] (H9) (G10) (wZ L xs) (M := tbM185) rfl rfl trivial ?_
          exact e3_retb (M := tbM185) rfl rfl rfl (Or.inr rfl) ⟨_, rfl, h⟩
        replace h := h.2
        by_cases hc1 : ((H9 l2 0) : Int) = 3
        · replace h := h.1 hc1
          refine e3_sw (M := tbM185) rfl rfl hc1 rfl ?_
          refine e3_K [0, 0, 0, 0, 0, 0, 0] 82 [(2, 34), (2, l1), (2, l2), (0, l3), (0, l4)] [(0, (e3_w32 (l4 + 1))), (0, l3), (2, l2), (2, l1), (2, 34)] (H9) (G10) (wZ L xs) (M := tbM185) rfl rfl trivial ?_
          refine e3_call (o := 0) (k := 187) (M2 := tbM187) (f1 := (4 + 3 * n)) (w1 := (91 + 69 * n)) (as := [(2, 34), (2, l1), (2, l2), (0, l3), (0, (e3_w32 (l4 + 1)))]) (rest := []) (M := tbM185) rfl rfl rfl trivial (by omega) (by show (91 + 69 * n) + (19 + 6) ≤ (67 + 69 * (n + 1)); omega) (Nat.le_of_ble_eq_true rfl) ?_
          refine e3_mono (sS_anyFits L xs n R hR _ _ _ _ _ _ _ h) (fun r H13 G14 h => ?_)
          obtain ⟨x15, rfl, h⟩ := h
          change e3_Ev _ _ _ _ 85 [(2, 34), (2, l1), (2, l2), (0, l3), (0, l4)] [(0, x15)] H13 G14 _
          exact e3_retb (M := tbM185) rfl rfl rfl h.1 ⟨_, rfl, h.2⟩
        replace h := h.2
        replace h := h ⟨hc0, hc1⟩
        refine e3_sw (M := tbM185) rfl rfl rfl ((e3_swdl rfl (fun q hq => (by
      have hq : q ∈ ([(0, 28), (3, 30)] : List (Int × Int)) := hq
      simp only [List.mem_cons, List.not_mem_nil, or_false] at hq
      rcases hq with rfl | rfl
      all_goals (intro hz; simp only at hz; omega)))).trans rfl) ?_
        obtain ⟨o16, h⟩ := h
        refine e3_K [0, 4, 0, 0, 4, 4, 0, 2] 100 [(2, 34), (2, l1), (2, l2), (0, l3), (0, l4)] [(1, (H9 28 l3)), (2, l2), (2, 8)] (H9) (G10) (wZ L xs) (M := tbM185) rfl rfl ⟨trivial, trivial, trivial, o16, trivial⟩ ?_
        refine e3_call (o := 0) (k := 103) (M2 := tbM103) (f1 := 1) (w1 := 24) (as := [(2, 8), (2, l2), (1, (H9 28 l3))]) (rest := []) (M := tbM185) rfl rfl rfl trivial (by omega) (by show 24 + (19 + 4) ≤ (67 + 69 * (n + 1)); omega) (Nat.le_of_ble_eq_true rfl) ?_
        refine e3_mono (sK_holds L xs _ _ _ _ _ h) (fun r H17 G18 h => ?_)
        obtain ⟨x19, rfl, h⟩ := h
        change e3_Ev _ _ _ _ 103 [(2, 34), (2, l1), (2, l2), (0, l3), (0, l4)] [(0, x19)] H17 G18 _
        refine e3_br (M := tbM185) rfl rfl rfl Iff.rfl (fun hc => ?_) (fun hc => ?_)
        · replace h := h.1 hc
          refine e3_fgt [false, false, false, false, false] ?_
          exact sS_fits_124 L xs n R hR Q _ _ h
        · replace h := h.2 hc
          refine e3_K [0, 0, 0, 0, 0, 0, 0] 114 [(2, 34), (2, l1), (2, l2), (0, l3), (0, l4)] [(0, (e3_w32 (l4 + 1))), (0, l3), (2, l2), (2, l1), (2, 34)] (H17) (G18) (wZ L xs) (M := tbM185) rfl rfl trivial ?_
          refine e3_call (o := 0) (k := 188) (M2 := tbM188) (f1 := (4 + 3 * n)) (w1 := (91 + 69 * n)) (as := [(2, 34), (2, l1), (2, l2), (0, l3), (0, (e3_w32 (l4 + 1)))]) (rest := []) (M := tbM185) rfl rfl rfl trivial (by omega) (by show (91 + 69 * n) + (19 + 7) ≤ (67 + 69 * (n + 1)); omega) (Nat.le_of_ble_eq_true rfl) ?_
          refine e3_mono (sS_partsFit L xs n R hR _ _ _ _ _ _ _ h) (fun r H20 G21 h => ?_)
          obtain ⟨x22, rfl, h⟩ := h
          change e3_Ev _ _ _ _ 117 [(2, 34), (2, l1), (2, l2), (0, l3), (0, l4)] [(0, x22)] H20 G21 _
          refine e3_br (M := tbM185) rfl rfl rfl Iff.rfl (fun hc => ?_) (fun hc => ?_)
          · replace h := h.1 hc
            refine e3_fgt [false, false, false, false, false] ?_
            exact sS_fits_124 L xs n R hR Q _ _ h
          · replace h := h.2 hc
            refine e3_K [0, 0] 125 [(2, 34), (2, l1), (2, l2), (0, l3), (0, l4)] [(0, 1)] (H20) (G21) (wZ L xs) (M := tbM185) rfl rfl trivial ?_
            refine e3_fgt [false, false, false, false, false] ?_
            exact sS_fits_125 L xs n R hR Q _ _ _ h
/-- LetterPost$Sorter.patternsFit(LLetterPost$Rule;)Z -/
def wS_patternsFit_49 (Q : Int → e3_H → e3_G → Prop)  (H : e3_H) (G : e3_G) : Prop :=
  Q 1 H G
def wS_patternsFit_7 (Q : Int → e3_H → e3_G → Prop) : Nat → Int → Int → Int → e3_H → e3_G → Prop
  | 0, _, _, _, _, _ => False
  | nn + 1, l1, l2, l3, H, G => (((l3 : Int) < 0 → (wS_patternsFit_49 Q H G)) ∧ (¬ ((l3 : Int) < 0) → (((l2 : Int) < 3 → ((0 : Int) ≤ l2 ∧ (l2 : Int) < 3) ∧ (wS_fits 9 l1 l3 (H 35 l2) 0 H G (fun x4 H2 G3 => (((x4 : Int) = 0 → Q 0 H2 G3) ∧ (¬ ((x4 : Int) = 0) → (e3_ob G3 10 l3) ∧ (wS_patternsFit_7 Q nn l1 (e3_w32 (l2 + 1)) (H2 l3 8) H2 G3)))))) ∧ (¬ ((l2 : Int) < 3) → (wS_patternsFit_49 Q H G)))))
def wS_patternsFit (Q : Int → e3_H → e3_G → Prop) (l1 : Int) (H : e3_H) (G : e3_G) : Prop :=
  (e3_ob G 9 l1) ∧ (∃ n, wS_patternsFit_7 Q n l1 0 (H l1 2) H G)
set_option maxRecDepth 100000 in
set_option maxHeartbeats 4000000 in
theorem sS_patternsFit_49 (L : Nat) (xs : Nat → Int32) (Q : Int → e3_H → e3_G → Prop)  (H : e3_H) (G : e3_G) (h : wS_patternsFit_49 Q  H G) : e3_Ev (wB L xs) 31 712 184 49 [(3, 0), (3, 0), (3, 0), (3, 0)] [] H G (e3_q0 Q) := by
  unfold wS_patternsFit_49 at h
  refine e3_K [0] 50 [(3, 0), (3, 0), (3, 0), (3, 0)] [(0, 1)] (H) (G) (wZ L xs) (M := tbM184) rfl rfl trivial ?_
  exact e3_retb (M := tbM184) rfl rfl rfl (Or.inr rfl) ⟨_, rfl, h⟩
set_option maxRecDepth 100000 in
set_option maxHeartbeats 4000000 in
theorem sS_patternsFit_7 (L : Nat) (xs : Nat → Int32) (Q : Int → e3_H → e3_G → Prop) : ∀ (nl : Nat) (l1 : Int) (l2 : Int) (l3 : Int) (H : e3_H) (G : e3_G), wS_patternsFit_7 Q nl l1 l2 l3 H G → e3_Ev (wB L xs) 31 712 184 7 [(2, 34), (2, l1), (0, l2), (2, l3)] [] H G (e3_q0 Q) := by
  intro nl
  induction nl with
  | zero => intro l1 l2 l3 H G h; exact h.elim
  | succ nn ih =>
    intro l1 l2 l3 H G h
    have h : (((l3 : Int) < 0 → (wS_patternsFit_49 Q H G)) ∧ (¬ ((l3 : Int) < 0) → (((l2 : Int) < 3 → ((0 : Int) ≤ l2 ∧ (l2 : Int) < 3) ∧ (wS_fits 9 l1 l3 (H 35 l2) 0 H G (fun x4 H2 G3 => (((x4 : Int) = 0 → Q 0 H2 G3) ∧ (¬ ((x4 : Int) = 0) → (e3_ob G3 10 l3) ∧ (wS_patternsFit_7 Q nn l1 (e3_w32 (l2 + 1)) (H2 l3 8) H2 G3)))))) ∧ (¬ ((l2 : Int) < 3) → (wS_patternsFit_49 Q H G))))) := h
    refine e3_K [0] 8 [(2, 34), (2, l1), (0, l2), (2, l3)] [(2, l3)] (H) (G) (wZ L xs) (M := tbM184) rfl rfl trivial ?_
    refine e3_br (M := tbM184) rfl rfl rfl Iff.rfl (fun hc => ?_) (fun hc => ?_)
    · replace h := h.1 hc
      refine e3_fgt [false, false, false, false] ?_
      exact sS_patternsFit_49 L xs Q _ _ h
    · replace h := h.2 hc
      refine e3_K [0, 0, 4, 2] 17 [(2, 34), (2, l1), (0, l2), (2, l3)] [(0, 3), (0, l2)] (H) (G) (wZ L xs) (M := tbM184) rfl rfl ⟨trivial, (by decide), trivial⟩ ?_
      refine e3_br (M := tbM184) rfl rfl rfl Iff.rfl (fun hc => ?_) (fun hc => ?_)
      · replace h := h.1 hc
        obtain ⟨o1, h⟩ := h
        refine e3_K [0, 0, 0, 0, 4, 0, 2, 0] 30 [(2, 34), (2, l1), (0, l2), (2, l3)] [(0, 0), (0, (H 35 l2)), (2, l3), (2, l1), (2, 34)] (H) (G) (wZ L xs) (M := tbM184) rfl rfl ⟨trivial, o1, trivial⟩ ?_
        refine e3_call (o := 0) (k := 185) (M2 := tbM185) (f1 := (3 + 3 * 9)) (w1 := (67 + 69 * 9)) (as := [(2, 34), (2, l1), (2, l3), (0, (H 35 l2)), (0, 0)]) (rest := []) (M := tbM184) rfl rfl rfl trivial (Nat.le_of_ble_eq_true rfl) (Nat.le_of_ble_eq_true rfl) (Nat.le_of_ble_eq_true rfl) ?_
        refine e3_mono (sS_fits L xs 9 _ _ _ _ _ _ _ h) (fun r H2 G3 h => ?_)
        obtain ⟨x4, rfl, h⟩ := h
        change e3_Ev _ _ _ _ 33 [(2, 34), (2, l1), (0, l2), (2, l3)] [(0, x4)] H2 G3 _
        refine e3_br (M := tbM184) rfl rfl rfl Iff.rfl (fun hc => ?_) (fun hc => ?_)
        · replace h := h.1 hc
          refine e3_K [0] 37 [(2, 34), (2, l1), (0, l2), (2, l3)] [(0, 0)] (H2) (G3) (wZ L xs) (M := tbM184) rfl rfl trivial ?_
          exact e3_retb (M := tbM184) rfl rfl rfl (Or.inl rfl) ⟨_, rfl, h⟩
        · replace h := h.2 hc
          obtain ⟨o5, h⟩ := h
          refine e3_K [0, 0, 3, 0, 0] 7 [(2, 34), (2, l1), (0, (e3_w32 (l2 + 1))), (2, (H2 l3 8))] [] (H2) (G3) (wZ L xs) (M := tbM184) rfl rfl ⟨o5, trivial⟩ ?_
          exact ih _ _ _ _ _ h
      · replace h := h.2 hc
        refine e3_fgt [false, false, false, false] ?_
        exact sS_patternsFit_49 L xs Q _ _ h
set_option maxRecDepth 100000 in
set_option maxHeartbeats 4000000 in
theorem sS_patternsFit (L : Nat) (xs : Nat → Int32) (Q : Int → e3_H → e3_G → Prop) (l1 : Int) (H : e3_H) (G : e3_G) (h : wS_patternsFit Q l1 H G) : e3_Ev (wB L xs) 31 712 184 0 [(2, 34), (2, l1), (3, 0), (3, 0)] [] H G (e3_q0 Q) := by
  unfold wS_patternsFit at h
  obtain ⟨o1, h⟩ := h
  refine e3_K [0, 0, 0, 3, 0] 7 [(2, 34), (2, l1), (0, 0), (2, (H l1 2))] [] (H) (G) (wZ L xs) (M := tbM184) rfl rfl ⟨o1, trivial⟩ ?_
  obtain ⟨nl, h⟩ := h
  exact sS_patternsFit_7 L xs Q nl _ _ _ _ _ h
/-- LetterPost$Sorter.byRules(LLetterPost$Function;)LLetterPost$Rule; -/
def wS_byRules_44 (Q : Int → e3_H → e3_G → Prop) (k2 : Int → Int → e3_H → e3_G → Prop) (l1 : Int) (l2 : Int) (H : e3_H) (G : e3_G) : Prop :=
  (k2 l1 (e3_w32 (l2 + 1)) H G)
def wS_byRules_2 (Q : Int → e3_H → e3_G → Prop) : Nat → Int → Int → e3_H → e3_G → Prop
  | 0, _, _, _, _ => False
  | nn + 1, l1, l2, H, G => (e3_ob G 8 l1) ∧ (((l2 : Int) < (H l1 3) → (e3_ob G 8 l1) ∧ (e3_oa G 5 (H l1 4) l2) ∧ (wS_patternsFit (fun x6 H4 G5 => (((x6 : Int) = 0 → (wS_byRules_44 Q (fun l1 l2 H G => wS_byRules_2 Q nn l1 l2 H G) l1 l2 H4 G5)) ∧ (¬ ((x6 : Int) = 0) → (wS_guardLets (fun x9 H7 G8 => (((x9 : Int) = 0 → ((((H7 34 6) : Int) = 0 → (wS_byRules_44 Q (fun l1 l2 H G => wS_byRules_2 Q nn l1 l2 H G) l1 l2 H7 G8)) ∧ (¬ (((H7 34 6) : Int) = 0) → Q (-1) H7 G8))) ∧ (¬ ((x9 : Int) = 0) → Q (H (H l1 4) l2) H7 G8))) (H (H l1 4) l2) H4 G5)))) (H (H l1 4) l2) H G)) ∧ (¬ ((l2 : Int) < (H l1 3)) → (wS_end (fun H10 G11 => Q (-1) H10 G11) 1 (-4) H G)))
def wS_byRules (Q : Int → e3_H → e3_G → Prop) (l1 : Int) (H : e3_H) (G : e3_G) : Prop :=
  (∃ n, wS_byRules_2 Q n l1 0 H G)
set_option maxRecDepth 100000 in
set_option maxHeartbeats 4000000 in
theorem sS_byRules_44 (L : Nat) (xs : Nat → Int32) (Q : Int → e3_H → e3_G → Prop) (k2 : Int → Int → e3_H → e3_G → Prop) (hk2 : ∀ (l1 : Int) (l2 : Int) (H : e3_H) (G : e3_G), k2 l1 l2 H G → e3_Ev (wB L xs) 32 735 183 2 [(2, 34), (2, l1), (0, l2), (3, 0)] [] H G (e3_q2 Q)) (l1 : Int) (l2 : Int) (H : e3_H) (G : e3_G) (h : wS_byRules_44 Q k2 l1 l2 H G) : e3_Ev (wB L xs) 32 735 183 44 [(2, 34), (2, l1), (0, l2), (3, 0)] [] H G (e3_q2 Q) := by
  unfold wS_byRules_44 at h
  refine e3_K [0, 0] 2 [(2, 34), (2, l1), (0, (e3_w32 (l2 + 1))), (3, 0)] [] (H) (G) (wZ L xs) (M := tbM183) rfl rfl trivial ?_
  exact hk2 _ _ _ _ h
set_option maxRecDepth 100000 in
set_option maxHeartbeats 4000000 in
theorem sS_byRules_2 (L : Nat) (xs : Nat → Int32) (Q : Int → e3_H → e3_G → Prop) : ∀ (nl : Nat) (l1 : Int) (l2 : Int) (H : e3_H) (G : e3_G), wS_byRules_2 Q nl l1 l2 H G → e3_Ev (wB L xs) 32 735 183 2 [(2, 34), (2, l1), (0, l2), (3, 0)] [] H G (e3_q2 Q) := by
  intro nl
  induction nl with
  | zero => intro l1 l2 H G h; exact h.elim
  | succ nn ih =>
    intro l1 l2 H G h
    have h : (e3_ob G 8 l1) ∧ (((l2 : Int) < (H l1 3) → (e3_ob G 8 l1) ∧ (e3_oa G 5 (H l1 4) l2) ∧ (wS_patternsFit (fun x6 H4 G5 => (((x6 : Int) = 0 → (wS_byRules_44 Q (fun l1 l2 H G => wS_byRules_2 Q nn l1 l2 H G) l1 l2 H4 G5)) ∧ (¬ ((x6 : Int) = 0) → (wS_guardLets (fun x9 H7 G8 => (((x9 : Int) = 0 → ((((H7 34 6) : Int) = 0 → (wS_byRules_44 Q (fun l1 l2 H G => wS_byRules_2 Q nn l1 l2 H G) l1 l2 H7 G8)) ∧ (¬ (((H7 34 6) : Int) = 0) → Q (-1) H7 G8))) ∧ (¬ ((x9 : Int) = 0) → Q (H (H l1 4) l2) H7 G8))) (H (H l1 4) l2) H4 G5)))) (H (H l1 4) l2) H G)) ∧ (¬ ((l2 : Int) < (H l1 3)) → (wS_end (fun H10 G11 => Q (-1) H10 G11) 1 (-4) H G))) := h
    obtain ⟨o1, h⟩ := h
    refine e3_K [0, 0, 3] 7 [(2, 34), (2, l1), (0, l2), (3, 0)] [(0, (H l1 3)), (0, l2)] (H) (G) (wZ L xs) (M := tbM183) rfl rfl ⟨o1, trivial⟩ ?_
    refine e3_br (M := tbM183) rfl rfl rfl Iff.rfl (fun hc => ?_) (fun hc => ?_)
    · replace h := h.1 hc
      obtain ⟨o2, o3, h⟩ := h
      refine e3_K [0, 3, 0, 8, 0, 0, 0] 19 [(2, 34), (2, l1), (0, l2), (2, (H (H l1 4) l2))] [(2, (H (H l1 4) l2)), (2, 34)] (H) (G) (wZ L xs) (M := tbM183) rfl rfl ⟨o2, o3, trivial⟩ ?_
      refine e3_call (o := 0) (k := 184) (M2 := tbM184) (f1 := 31) (w1 := 712) (as := [(2, 34), (2, (H (H l1 4) l2))]) (rest := []) (M := tbM183) rfl rfl rfl trivial (Nat.le_of_ble_eq_true rfl) (Nat.le_of_ble_eq_true rfl) (Nat.le_of_ble_eq_true rfl) ?_
      refine e3_mono (sS_patternsFit L xs _ _ _ _ h) (fun r H4 G5 h => ?_)
      obtain ⟨x6, rfl, h⟩ := h
      change e3_Ev _ _ _ _ 22 [(2, 34), (2, l1), (0, l2), (2, (H (H l1 4) l2))] [(0, x6)] H4 G5 _
      refine e3_br (M := tbM183) rfl rfl rfl Iff.rfl (fun hc => ?_) (fun hc => ?_)
      · replace h := h.1 hc
        refine e3_fgt [true, true, true, false] ?_
        exact sS_byRules_44 L xs Q (fun l1 l2 H G => wS_byRules_2 Q nn l1 l2 H G) ih _ _ _ _ h
      · replace h := h.2 hc
        refine e3_K [0, 0] 27 [(2, 34), (2, l1), (0, l2), (2, (H (H l1 4) l2))] [(2, (H (H l1 4) l2)), (2, 34)] (H4) (G5) (wZ L xs) (M := tbM183) rfl rfl trivial ?_
        refine e3_call (o := 0) (k := 177) (M2 := tbM177) (f1 := 4) (w1 := 89) (as := [(2, 34), (2, (H (H l1 4) l2))]) (rest := []) (M := tbM183) rfl rfl rfl trivial (Nat.le_of_ble_eq_true rfl) (Nat.le_of_ble_eq_true rfl) (Nat.le_of_ble_eq_true rfl) ?_
        refine e3_mono (sS_guardLets L xs _ _ _ _ h) (fun r H7 G8 h => ?_)
        obtain ⟨x9, rfl, h⟩ := h
        change e3_Ev _ _ _ _ 30 [(2, 34), (2, l1), (0, l2), (2, (H (H l1 4) l2))] [(0, x9)] H7 G8 _
        refine e3_br (M := tbM183) rfl rfl rfl Iff.rfl (fun hc => ?_) (fun hc => ?_)
        · replace h := h.1 hc
          refine e3_K [0, 2] 39 [(2, 34), (2, l1), (0, l2), (2, (H (H l1 4) l2))] [(0, (H7 34 6))] (H7) (G8) (wZ L xs) (M := tbM183) rfl rfl ⟨trivial, trivial⟩ ?_
          refine e3_br (M := tbM183) rfl rfl rfl Iff.rfl (fun hc => ?_) (fun hc => ?_)
          · replace h := h.1 hc
            refine e3_fgt [true, true, true, false] ?_
            exact sS_byRules_44 L xs Q (fun l1 l2 H G => wS_byRules_2 Q nn l1 l2 H G) ih _ _ _ _ h
          · replace h := h.2 hc
            refine e3_K [0] 43 [(2, 34), (2, l1), (0, l2), (2, (H (H l1 4) l2))] [(2, (-1))] (H7) (G8) (wZ L xs) (M := tbM183) rfl rfl trivial ?_
            exact e3_reta (M := tbM183) rfl rfl rfl ⟨_, rfl, h⟩
        · replace h := h.2 hc
          refine e3_K [0] 34 [(2, 34), (2, l1), (0, l2), (2, (H (H l1 4) l2))] [(2, (H (H l1 4) l2))] (H7) (G8) (wZ L xs) (M := tbM183) rfl rfl trivial ?_
          exact e3_reta (M := tbM183) rfl rfl rfl ⟨_, rfl, h⟩
    · replace h := h.2 hc
      refine e3_K [0, 0, 0] 54 [(2, 34), (2, l1), (0, l2), (3, 0)] [(0, (-4)), (0, 1), (2, 34)] (H) (G) (wZ L xs) (M := tbM183) rfl rfl trivial ?_
      refine e3_call (o := 0) (k := 175) (M2 := tbM175) (f1 := 0) (w1 := 0) (as := [(2, 34), (0, 1), (0, (-4))]) (rest := []) (M := tbM183) rfl rfl rfl trivial (Nat.le_of_ble_eq_true rfl) (Nat.le_of_ble_eq_true rfl) (Nat.le_of_ble_eq_true rfl) ?_
      refine e3_mono (sS_end L xs _ _ _ _ _ h) (fun r H10 G11 h => ?_)
      obtain ⟨rfl, h⟩ := h
      change e3_Ev _ _ _ _ 57 [(2, 34), (2, l1), (0, l2), (3, 0)] [] H10 G11 _
      refine e3_K [0] 58 [(2, 34), (2, l1), (0, l2), (3, 0)] [(2, (-1))] (H10) (G11) (wZ L xs) (M := tbM183) rfl rfl trivial ?_
      exact e3_reta (M := tbM183) rfl rfl rfl ⟨_, rfl, h⟩
set_option maxRecDepth 100000 in
set_option maxHeartbeats 4000000 in
theorem sS_byRules (L : Nat) (xs : Nat → Int32) (Q : Int → e3_H → e3_G → Prop) (l1 : Int) (H : e3_H) (G : e3_G) (h : wS_byRules Q l1 H G) : e3_Ev (wB L xs) 32 735 183 0 [(2, 34), (2, l1), (3, 0), (3, 0)] [] H G (e3_q2 Q) := by
  unfold wS_byRules at h
  refine e3_K [0, 0] 2 [(2, 34), (2, l1), (0, 0), (3, 0)] [] (H) (G) (wZ L xs) (M := tbM183) rfl rfl trivial ?_
  obtain ⟨nl, h⟩ := h
  exact sS_byRules_2 L xs Q nl _ _ _ _ h
/-- LetterPost$Sorter.keepBound(LLetterPost$Rule;)V -/
def wS_keepBound (Q : e3_H → e3_G → Prop) (l1 : Int) (H : e3_H) (G : e3_G) : Prop :=
  (e3_ob G 9 l1) ∧ (wJ_min_II (fun x4 H2 G3 => ∀ H5 : e3_H, H5 = e3_up H2 34 11 x4 → (e3_co G3 36 0 39 0 8) ∧ ∀ H6 : e3_H, H6 = e3_cpy H5 36 0 39 0 8 → Q H6 G3) (H l1 4) 8 H G)
set_option maxRecDepth 100000 in
set_option maxHeartbeats 4000000 in
theorem sS_keepBound (L : Nat) (xs : Nat → Int32) (Q : e3_H → e3_G → Prop) (l1 : Int) (H : e3_H) (G : e3_G) (h : wS_keepBound Q l1 H G) : e3_Ev (wB L xs) 1 80 189 0 [(2, 34), (2, l1)] [] H G (e3_qv Q) := by
  unfold wS_keepBound at h
  obtain ⟨o1, h⟩ := h
  refine e3_K [0, 0, 3, 0, 4, 2] 10 [(2, 34), (2, l1)] [(0, 8), (0, (H l1 4)), (2, 34)] (H) (G) (wZ L xs) (M := tbM189) rfl rfl ⟨o1, trivial, (by decide), trivial⟩ ?_
  refine e3_call (o := 0) (k := 303) (M2 := tbM303) (f1 := 0) (w1 := 0) (as := [(0, (H l1 4)), (0, 8)]) (rest := [(2, 34)]) (M := tbM189) rfl rfl rfl trivial (Nat.le_of_ble_eq_true rfl) (Nat.le_of_ble_eq_true rfl) (Nat.le_of_ble_eq_true rfl) ?_
  refine e3_mono (sJ_min_II L xs _ _ _ _ _ h) (fun r H2 G3 h => ?_)
  obtain ⟨x4, rfl, h⟩ := h
  change e3_Ev _ _ _ _ 13 [(2, 34), (2, l1)] [(0, x4), (2, 34)] H2 G3 _
  refine e3_K [2] 16 [(2, 34), (2, l1)] [] (e3_up H2 34 11 x4) (G3) (wZ L xs) (M := tbM189) rfl rfl ⟨trivial, trivial⟩ ?_
  generalize hH5 : (e3_up H2 34 11 x4) = H5
  replace h := h H5 hH5.symm
  refine e3_K [0, 4, 0, 0, 4, 0, 0, 4, 2] 31 [(2, 34), (2, l1)] [(0, 8), (0, 0), (2, 39), (0, 0), (2, 36)] (H5) (G3) (wZ L xs) (M := tbM189) rfl rfl ⟨trivial, trivial, trivial, (by decide), trivial⟩ ?_
  obtain ⟨oz, h⟩ := h
  refine e3_cp2 (M := tbM189) rfl rfl rfl oz (Nat.le_of_ble_eq_true rfl) (Nat.le_of_ble_eq_true rfl) ?_
  generalize hH6 : e3_cpy H5 36 0 39 0 8 = H6
  replace h := h H6 hH6.symm
  exact e3_retv (M := tbM189) rfl rfl rfl ⟨rfl, h⟩
/-- LetterPost$Sorter.handOver(LLetterPost$Rule;)V -/
def wS_handOver_37 (Q : e3_H → e3_G → Prop) (l1 : Int) (H : e3_H) (G : e3_G) : Prop :=
  (e3_ob G 9 l1) ∧ ∀ H1 : e3_H, H1 = e3_up H 34 5 (H l1 18) → Q H1 G
def wS_handOver_2 (Q : e3_H → e3_G → Prop) : Nat → Int → Int → e3_H → e3_G → Prop
  | 0, _, _, _, _ => False
  | nn + 1, l1, l2, H, G => (e3_ob G 9 l1) ∧ (((l2 : Int) < (H l1 15) → (((l2 : Int) < 3 → (e3_ob G 9 l1) ∧ (e3_oa G 0 (H l1 16) l2) ∧ (wS_heldAt (fun x6 H4 G5 => ((0 : Int) ≤ l2 ∧ (l2 : Int) < 3) ∧ ∀ H7 : e3_H, H7 = e3_up H4 35 l2 x6 → (wS_handOver_2 Q nn l1 (e3_w32 (l2 + 1)) H7 G5)) (H (H l1 16) l2) H G)) ∧ (¬ ((l2 : Int) < 3) → (wS_handOver_37 Q l1 H G)))) ∧ (¬ ((l2 : Int) < (H l1 15)) → (wS_handOver_37 Q l1 H G)))
def wS_handOver (Q : e3_H → e3_G → Prop) (l1 : Int) (H : e3_H) (G : e3_G) : Prop :=
  (∃ n, wS_handOver_2 Q n l1 0 H G)
set_option maxRecDepth 100000 in
set_option maxHeartbeats 4000000 in
theorem sS_handOver_37 (L : Nat) (xs : Nat → Int32) (Q : e3_H → e3_G → Prop) (l1 : Int) (H : e3_H) (G : e3_G) (h : wS_handOver_37 Q l1 H G) : e3_Ev (wB L xs) 1 21 190 37 [(2, 34), (2, l1), (3, 0)] [] H G (e3_qv Q) := by
  unfold wS_handOver_37 at h
  obtain ⟨o2, h⟩ := h
  refine e3_K [0, 0, 3, 2] 45 [(2, 34), (2, l1), (3, 0)] [] (e3_up H 34 5 (H l1 18)) (G) (wZ L xs) (M := tbM190) rfl rfl ⟨o2, trivial, trivial⟩ ?_
  generalize hH1 : (e3_up H 34 5 (H l1 18)) = H1
  replace h := h H1 hH1.symm
  exact e3_retv (M := tbM190) rfl rfl rfl ⟨rfl, h⟩
set_option maxRecDepth 100000 in
set_option maxHeartbeats 4000000 in
theorem sS_handOver_2 (L : Nat) (xs : Nat → Int32) (Q : e3_H → e3_G → Prop) : ∀ (nl : Nat) (l1 : Int) (l2 : Int) (H : e3_H) (G : e3_G), wS_handOver_2 Q nl l1 l2 H G → e3_Ev (wB L xs) 1 21 190 2 [(2, 34), (2, l1), (0, l2)] [] H G (e3_qv Q) := by
  intro nl
  induction nl with
  | zero => intro l1 l2 H G h; exact h.elim
  | succ nn ih =>
    intro l1 l2 H G h
    have h : (e3_ob G 9 l1) ∧ (((l2 : Int) < (H l1 15) → (((l2 : Int) < 3 → (e3_ob G 9 l1) ∧ (e3_oa G 0 (H l1 16) l2) ∧ (wS_heldAt (fun x6 H4 G5 => ((0 : Int) ≤ l2 ∧ (l2 : Int) < 3) ∧ ∀ H7 : e3_H, H7 = e3_up H4 35 l2 x6 → (wS_handOver_2 Q nn l1 (e3_w32 (l2 + 1)) H7 G5)) (H (H l1 16) l2) H G)) ∧ (¬ ((l2 : Int) < 3) → (wS_handOver_37 Q l1 H G)))) ∧ (¬ ((l2 : Int) < (H l1 15)) → (wS_handOver_37 Q l1 H G))) := h
    obtain ⟨o1, h⟩ := h
    refine e3_K [0, 0, 3] 7 [(2, 34), (2, l1), (0, l2)] [(0, (H l1 15)), (0, l2)] (H) (G) (wZ L xs) (M := tbM190) rfl rfl ⟨o1, trivial⟩ ?_
    refine e3_br (M := tbM190) rfl rfl rfl Iff.rfl (fun hc => ?_) (fun hc => ?_)
    · replace h := h.1 hc
      refine e3_K [0, 0] 12 [(2, 34), (2, l1), (0, l2)] [(0, 3), (0, l2)] (H) (G) (wZ L xs) (M := tbM190) rfl rfl trivial ?_
      refine e3_br (M := tbM190) rfl rfl rfl Iff.rfl (fun hc => ?_) (fun hc => ?_)
      · replace h := h.1 hc
        obtain ⟨o2, o3, h⟩ := h
        refine e3_K [0, 4, 0, 0, 0, 3, 0, 3] 27 [(2, 34), (2, l1), (0, l2)] [(0, (H (H l1 16) l2)), (2, 34), (0, l2), (2, 35)] (H) (G) (wZ L xs) (M := tbM190) rfl rfl ⟨trivial, o2, o3, trivial⟩ ?_
        refine e3_call (o := 0) (k := 181) (M2 := tbM181) (f1 := 0) (w1 := 0) (as := [(2, 34), (0, (H (H l1 16) l2))]) (rest := [(0, l2), (2, 35)]) (M := tbM190) rfl rfl rfl trivial (Nat.le_of_ble_eq_true rfl) (Nat.le_of_ble_eq_true rfl) (Nat.le_of_ble_eq_true rfl) ?_
        refine e3_mono (sS_heldAt L xs _ _ _ _ h) (fun r H4 G5 h => ?_)
        obtain ⟨x6, rfl, h⟩ := h
        change e3_Ev _ _ _ _ 30 [(2, 34), (2, l1), (0, l2)] [(0, x6), (0, l2), (2, 35)] H4 G5 _
        obtain ⟨o8, h⟩ := h
        refine e3_K [2] 31 [(2, 34), (2, l1), (0, l2)] [] (e3_up H4 35 l2 x6) (G5) (wZ L xs) (M := tbM190) rfl rfl ⟨o8, trivial⟩ ?_
        generalize hH7 : (e3_up H4 35 l2 x6) = H7
        replace h := h H7 hH7.symm
        refine e3_K [0, 0] 2 [(2, 34), (2, l1), (0, (e3_w32 (l2 + 1)))] [] (H7) (G5) (wZ L xs) (M := tbM190) rfl rfl trivial ?_
        exact ih _ _ _ _ h
      · replace h := h.2 hc
        refine e3_fgt [true, true, false] ?_
        exact sS_handOver_37 L xs Q _ _ _ h
    · replace h := h.2 hc
      refine e3_fgt [true, true, false] ?_
      exact sS_handOver_37 L xs Q _ _ _ h
set_option maxRecDepth 100000 in
set_option maxHeartbeats 4000000 in
theorem sS_handOver (L : Nat) (xs : Nat → Int32) (Q : e3_H → e3_G → Prop) (l1 : Int) (H : e3_H) (G : e3_G) (h : wS_handOver Q l1 H G) : e3_Ev (wB L xs) 1 21 190 0 [(2, 34), (2, l1), (3, 0)] [] H G (e3_qv Q) := by
  unfold wS_handOver at h
  refine e3_K [0, 0] 2 [(2, 34), (2, l1), (0, 0)] [] (H) (G) (wZ L xs) (M := tbM190) rfl rfl trivial ?_
  obtain ⟨nl, h⟩ := h
  exact sS_handOver_2 L xs Q nl _ _ _ _ h
/-- LetterPost$Sorter.run(IZ)I -/
def wS_run_162 (Q : Int → e3_H → e3_G → Prop) (l3 : Int) (l6 : Int) (s0 : Int) (s1 : Int) (H : e3_H) (G : e3_G) : Prop :=
  ((0 : Int) ≤ s1 ∧ (s1 : Int) < 7) ∧ ∀ H1 : e3_H, H1 = e3_up H 37 s1 s0 → (e3_ob G 9 l6) ∧ ∀ H3 : e3_H, H3 = e3_up H1 37 6 (H1 l6 0) → Q l3 H3 G
def wS_run_122 (Q : Int → e3_H → e3_G → Prop) (k29 : Int → Int → Int → e3_H → e3_G → Prop) (l2 : Int) (l3 : Int) (l4 : Int) (l6 : Int) (H : e3_H) (G : e3_G) : Prop :=
  (e3_ob G 9 l6) ∧ ((((H l6 11) : Int) = 2 → (wS_handOver (fun H2 G3 => (k29 l2 l3 (e3_w32 (l4 + 1)) H2 G3)) l6 H G)) ∧ (¬ (((H l6 11) : Int) = 2) → (e3_ob G 9 l6) ∧ ((((H l6 11) : Int) = 1 → (e3_ob G 9 l6) ∧ (wS_numberHeld (fun x9 H7 G8 => (wS_run_162 Q l3 l6 x9 1 H7 G8)) (H l6 12) H G)) ∧ (¬ (((H l6 11) : Int) = 1) → (e3_ob G 9 l6) ∧ (wS_run_162 Q l3 l6 (H l6 12) 1 H G)))))
def wS_run_95 (Q : Int → e3_H → e3_G → Prop) (k29 : Int → Int → Int → e3_H → e3_G → Prop) (l2 : Int) (l3 : Int) (l4 : Int) (s0 : Int) (H : e3_H) (G : e3_G) : Prop :=
  (((s0 : Int) < 0 → Q l3 H G) ∧ (¬ ((s0 : Int) < 0) → (((l4 : Int) = 1 → (e3_ob G 9 s0) ∧ (wS_keepBound (fun H2 G3 => (wS_run_122 Q k29 l2 (H s0 0) l4 s0 H2 G3)) s0 H G)) ∧ (¬ ((l4 : Int) = 1) → (wS_run_122 Q k29 l2 l3 l4 s0 H G)))))
def wS_run_29 (Q : Int → e3_H → e3_G → Prop) : Nat → Int → Int → Int → e3_H → e3_G → Prop
  | 0, _, _, _, _, _ => False
  | nn + 1, l2, l3, l4, H, G => (((100 : Int) < l4 → (wS_end (fun H1 G2 => Q l3 H1 G2) 4 (-4) H G)) ∧ (¬ ((100 : Int) < l4) → (wR_functionAt (fun x6 H4 G5 => ∀ H7 : e3_H, H7 = e3_up H4 37 2 l4 → ∀ H8 : e3_H, H8 = e3_up H7 37 5 (H7 34 5) → (((x6 : Int) < 0 → (wS_run_95 Q (fun l2 l3 l4 H G => wS_run_29 Q nn l2 l3 l4 H G) l2 l3 l4 (-1) H8 G5)) ∧ (¬ ((x6 : Int) < 0) → (((l2 : Int) = 0 → (wS_byRules (fun x11 H9 G10 => (wS_run_95 Q (fun l2 l3 l4 H G => wS_run_29 Q nn l2 l3 l4 H G) l2 l3 l4 x11 H9 G10)) x6 H8 G5)) ∧ (¬ ((l2 : Int) = 0) → (wS_byTree (fun x14 H12 G13 => (wS_run_95 Q (fun l2 l3 l4 H G => wS_run_29 Q nn l2 l3 l4 H G) l2 l3 l4 x14 H12 G13)) x6 H8 G5)))))) (H 34 5) H G)))
def wS_run (Q : Int → e3_H → e3_G → Prop) (l1 : Int) (l2 : Int) (H : e3_H) (G : e3_G) : Prop :=
  (wJ_fill_AII (fun H1 G2 => ∀ H4 : e3_H, H4 = e3_up H1 34 9 0 → ∀ H5 : e3_H, H5 = e3_up H4 34 11 0 → ∀ H6 : e3_H, H6 = e3_up H5 34 5 l1 → (∃ n, wS_run_29 Q n l2 (-4) 1 H6 G2)) 37 0 H G)
set_option maxRecDepth 100000 in
set_option maxHeartbeats 4000000 in
theorem sS_run_162 (L : Nat) (xs : Nat → Int32) (Q : Int → e3_H → e3_G → Prop) (l3 : Int) (l6 : Int) (s0 : Int) (s1 : Int) (H : e3_H) (G : e3_G) (h : wS_run_162 Q l3 l6 s0 s1 H G) : e3_Ev (wB L xs) 33 758 169 162 [(2, 34), (3, 0), (3, 0), (0, l3), (3, 0), (3, 0), (2, l6)] [(0, s0), (0, s1), (2, 37)] H G (e3_q0 Q) := by
  unfold wS_run_162 at h
  obtain ⟨o2, h⟩ := h
  refine e3_K [2] 163 [(2, 34), (3, 0), (3, 0), (0, l3), (3, 0), (3, 0), (2, l6)] [] (e3_up H 37 s1 s0) (G) (wZ L xs) (M := tbM169) rfl rfl ⟨o2, trivial⟩ ?_
  generalize hH1 : (e3_up H 37 s1 s0) = H1
  replace h := h H1 hH1.symm
  obtain ⟨o4, h⟩ := h
  refine e3_K [0, 4, 0, 0, 3, 2] 175 [(2, 34), (3, 0), (3, 0), (0, l3), (3, 0), (3, 0), (2, l6)] [] (e3_up H1 37 6 (H1 l6 0)) (G) (wZ L xs) (M := tbM169) rfl rfl ⟨trivial, o4, ⟨by decide, by decide⟩, trivial⟩ ?_
  generalize hH3 : (e3_up H1 37 6 (H1 l6 0)) = H3
  replace h := h H3 hH3.symm
  refine e3_K [0] 176 [(2, 34), (3, 0), (3, 0), (0, l3), (3, 0), (3, 0), (2, l6)] [(0, l3)] (H3) (G) (wZ L xs) (M := tbM169) rfl rfl trivial ?_
  exact e3_reti (M := tbM169) rfl rfl rfl ⟨_, rfl, h⟩
set_option maxRecDepth 100000 in
set_option maxHeartbeats 4000000 in
theorem sS_run_122 (L : Nat) (xs : Nat → Int32) (Q : Int → e3_H → e3_G → Prop) (k29 : Int → Int → Int → e3_H → e3_G → Prop) (hk29 : ∀ (l2 : Int) (l3 : Int) (l4 : Int) (H : e3_H) (G : e3_G), k29 l2 l3 l4 H G → e3_Ev (wB L xs) 33 758 169 29 [(2, 34), (3, 0), (0, l2), (0, l3), (0, l4), (3, 0), (3, 0)] [] H G (e3_q0 Q)) (l2 : Int) (l3 : Int) (l4 : Int) (l6 : Int) (H : e3_H) (G : e3_G) (h : wS_run_122 Q k29 l2 l3 l4 l6 H G) : e3_Ev (wB L xs) 33 758 169 122 [(2, 34), (3, 0), (0, l2), (0, l3), (0, l4), (3, 0), (2, l6)] [] H G (e3_q0 Q) := by
  unfold wS_run_122 at h
  obtain ⟨o1, h⟩ := h
  refine e3_K [0, 3, 0] 128 [(2, 34), (3, 0), (0, l2), (0, l3), (0, l4), (3, 0), (2, l6)] [(0, 2), (0, (H l6 11))] (H) (G) (wZ L xs) (M := tbM169) rfl rfl ⟨o1, trivial⟩ ?_
  refine e3_br (M := tbM169) rfl rfl rfl Iff.rfl (fun hc => ?_) (fun hc => ?_)
  · replace h := h.1 hc
    refine e3_K [0, 0] 180 [(2, 34), (3, 0), (0, l2), (0, l3), (0, l4), (3, 0), (2, l6)] [(2, l6), (2, 34)] (H) (G) (wZ L xs) (M := tbM169) rfl rfl trivial ?_
    refine e3_call (o := 0) (k := 190) (M2 := tbM190) (f1 := 1) (w1 := 21) (as := [(2, 34), (2, l6)]) (rest := []) (M := tbM169) rfl rfl rfl trivial (Nat.le_of_ble_eq_true rfl) (Nat.le_of_ble_eq_true rfl) (Nat.le_of_ble_eq_true rfl) ?_
    refine e3_mono (sS_handOver L xs _ _ _ _ h) (fun r H2 G3 h => ?_)
    obtain ⟨rfl, h⟩ := h
    change e3_Ev _ _ _ _ 183 [(2, 34), (3, 0), (0, l2), (0, l3), (0, l4), (3, 0), (2, l6)] [] H2 G3 _
    refine e3_K [0, 0] 29 [(2, 34), (3, 0), (0, l2), (0, l3), (0, (e3_w32 (l4 + 1))), (3, 0), (2, l6)] [] (H2) (G3) (wZ L xs) (M := tbM169) rfl rfl trivial ?_
    refine e3_fgt [true, false, true, true, true, false, false] ?_
    exact hk29 _ _ _ _ _ h
  · replace h := h.2 hc
    obtain ⟨o5, h⟩ := h
    refine e3_K [0, 4, 0, 0, 3, 0] 142 [(2, 34), (3, 0), (0, l2), (0, l3), (0, l4), (3, 0), (2, l6)] [(0, 1), (0, (H l6 11)), (0, 1), (2, 37)] (H) (G) (wZ L xs) (M := tbM169) rfl rfl ⟨trivial, o5, trivial⟩ ?_
    refine e3_br (M := tbM169) rfl rfl rfl Iff.rfl (fun hc => ?_) (fun hc => ?_)
    · replace h := h.1 hc
      obtain ⟨o6, h⟩ := h
      refine e3_K [0, 0, 3] 151 [(2, 34), (3, 0), (0, l2), (0, l3), (0, l4), (3, 0), (2, l6)] [(0, (H l6 12)), (2, 34), (0, 1), (2, 37)] (H) (G) (wZ L xs) (M := tbM169) rfl rfl ⟨o6, trivial⟩ ?_
      refine e3_call (o := 0) (k := 180) (M2 := tbM180) (f1 := 1) (w1 := 21) (as := [(2, 34), (0, (H l6 12))]) (rest := [(0, 1), (2, 37)]) (M := tbM169) rfl rfl rfl trivial (Nat.le_of_ble_eq_true rfl) (Nat.le_of_ble_eq_true rfl) (Nat.le_of_ble_eq_true rfl) ?_
      refine e3_mono (sS_numberHeld L xs _ _ _ _ h) (fun r H7 G8 h => ?_)
      obtain ⟨x9, rfl, h⟩ := h
      change e3_Ev _ _ _ _ 154 [(2, 34), (3, 0), (0, l2), (0, l3), (0, l4), (3, 0), (2, l6)] [(0, x9), (0, 1), (2, 37)] H7 G8 _
      refine e3_K [0] 162 [(2, 34), (3, 0), (0, l2), (0, l3), (0, l4), (3, 0), (2, l6)] [(0, x9), (0, 1), (2, 37)] (H7) (G8) (wZ L xs) (M := tbM169) rfl rfl trivial ?_
      refine e3_fgt [true, false, false, true, false, false, true] ?_
      exact sS_run_162 L xs Q _ _ _ _ _ _ h
    · replace h := h.2 hc
      obtain ⟨o10, h⟩ := h
      refine e3_K [0, 3] 162 [(2, 34), (3, 0), (0, l2), (0, l3), (0, l4), (3, 0), (2, l6)] [(0, (H l6 12)), (0, 1), (2, 37)] (H) (G) (wZ L xs) (M := tbM169) rfl rfl ⟨o10, trivial⟩ ?_
      refine e3_fgt [true, false, false, true, false, false, true] ?_
      exact sS_run_162 L xs Q _ _ _ _ _ _ h
set_option maxRecDepth 100000 in
set_option maxHeartbeats 4000000 in
theorem sS_run_95 (L : Nat) (xs : Nat → Int32) (Q : Int → e3_H → e3_G → Prop) (k29 : Int → Int → Int → e3_H → e3_G → Prop) (hk29 : ∀ (l2 : Int) (l3 : Int) (l4 : Int) (H : e3_H) (G : e3_G), k29 l2 l3 l4 H G → e3_Ev (wB L xs) 33 758 169 29 [(2, 34), (3, 0), (0, l2), (0, l3), (0, l4), (3, 0), (3, 0)] [] H G (e3_q0 Q)) (l2 : Int) (l3 : Int) (l4 : Int) (s0 : Int) (H : e3_H) (G : e3_G) (h : wS_run_95 Q k29 l2 l3 l4 s0 H G) : e3_Ev (wB L xs) 33 758 169 95 [(2, 34), (3, 0), (0, l2), (0, l3), (0, l4), (3, 0), (3, 0)] [(2, s0)] H G (e3_q0 Q) := by
  unfold wS_run_95 at h
  refine e3_K [0, 0] 99 [(2, 34), (3, 0), (0, l2), (0, l3), (0, l4), (3, 0), (2, s0)] [(2, s0)] (H) (G) (wZ L xs) (M := tbM169) rfl rfl trivial ?_
  refine e3_br (M := tbM169) rfl rfl rfl Iff.rfl (fun hc => ?_) (fun hc => ?_)
  · replace h := h.1 hc
    refine e3_K [0] 103 [(2, 34), (3, 0), (0, l2), (0, l3), (0, l4), (3, 0), (2, s0)] [(0, l3)] (H) (G) (wZ L xs) (M := tbM169) rfl rfl trivial ?_
    exact e3_reti (M := tbM169) rfl rfl rfl ⟨_, rfl, h⟩
  · replace h := h.2 hc
    refine e3_K [0, 0] 107 [(2, 34), (3, 0), (0, l2), (0, l3), (0, l4), (3, 0), (2, s0)] [(0, 1), (0, l4)] (H) (G) (wZ L xs) (M := tbM169) rfl rfl trivial ?_
    refine e3_br (M := tbM169) rfl rfl rfl Iff.rfl (fun hc => ?_) (fun hc => ?_)
    · replace h := h.1 hc
      obtain ⟨o1, h⟩ := h
      refine e3_K [0, 3, 0, 0, 0] 119 [(2, 34), (3, 0), (0, l2), (0, (H s0 0)), (0, l4), (3, 0), (2, s0)] [(2, s0), (2, 34)] (H) (G) (wZ L xs) (M := tbM169) rfl rfl ⟨o1, trivial⟩ ?_
      refine e3_call (o := 0) (k := 189) (M2 := tbM189) (f1 := 1) (w1 := 80) (as := [(2, 34), (2, s0)]) (rest := []) (M := tbM169) rfl rfl rfl trivial (Nat.le_of_ble_eq_true rfl) (Nat.le_of_ble_eq_true rfl) (Nat.le_of_ble_eq_true rfl) ?_
      refine e3_mono (sS_keepBound L xs _ _ _ _ h) (fun r H2 G3 h => ?_)
      obtain ⟨rfl, h⟩ := h
      change e3_Ev _ _ _ _ 122 [(2, 34), (3, 0), (0, l2), (0, (H s0 0)), (0, l4), (3, 0), (2, s0)] [] H2 G3 _
      exact sS_run_122 L xs Q k29 hk29 _ _ _ _ _ _ h
    · replace h := h.2 hc
      exact sS_run_122 L xs Q k29 hk29 _ _ _ _ _ _ h
set_option maxRecDepth 100000 in
set_option maxHeartbeats 4000000 in
theorem sS_run_29 (L : Nat) (xs : Nat → Int32) (Q : Int → e3_H → e3_G → Prop) : ∀ (nl : Nat) (l2 : Int) (l3 : Int) (l4 : Int) (H : e3_H) (G : e3_G), wS_run_29 Q nl l2 l3 l4 H G → e3_Ev (wB L xs) 33 758 169 29 [(2, 34), (3, 0), (0, l2), (0, l3), (0, l4), (3, 0), (3, 0)] [] H G (e3_q0 Q) := by
  intro nl
  induction nl with
  | zero => intro l2 l3 l4 H G h; exact h.elim
  | succ nn ih =>
    intro l2 l3 l4 H G h
    have h : (((100 : Int) < l4 → (wS_end (fun H1 G2 => Q l3 H1 G2) 4 (-4) H G)) ∧ (¬ ((100 : Int) < l4) → (wR_functionAt (fun x6 H4 G5 => ∀ H7 : e3_H, H7 = e3_up H4 37 2 l4 → ∀ H8 : e3_H, H8 = e3_up H7 37 5 (H7 34 5) → (((x6 : Int) < 0 → (wS_run_95 Q (fun l2 l3 l4 H G => wS_run_29 Q nn l2 l3 l4 H G) l2 l3 l4 (-1) H8 G5)) ∧ (¬ ((x6 : Int) < 0) → (((l2 : Int) = 0 → (wS_byRules (fun x11 H9 G10 => (wS_run_95 Q (fun l2 l3 l4 H G => wS_run_29 Q nn l2 l3 l4 H G) l2 l3 l4 x11 H9 G10)) x6 H8 G5)) ∧ (¬ ((l2 : Int) = 0) → (wS_byTree (fun x14 H12 G13 => (wS_run_95 Q (fun l2 l3 l4 H G => wS_run_29 Q nn l2 l3 l4 H G) l2 l3 l4 x14 H12 G13)) x6 H8 G5)))))) (H 34 5) H G))) := h
    refine e3_K [0, 0] 33 [(2, 34), (3, 0), (0, l2), (0, l3), (0, l4), (3, 0), (3, 0)] [(0, 100), (0, l4)] (H) (G) (wZ L xs) (M := tbM169) rfl rfl trivial ?_
    refine e3_br (M := tbM169) rfl rfl rfl Iff.rfl (fun hc => ?_) (fun hc => ?_)
    · replace h := h.1 hc
      refine e3_K [0, 0, 0] 193 [(2, 34), (3, 0), (0, l2), (0, l3), (0, l4), (3, 0), (3, 0)] [(0, (-4)), (0, 4), (2, 34)] (H) (G) (wZ L xs) (M := tbM169) rfl rfl trivial ?_
      refine e3_call (o := 0) (k := 175) (M2 := tbM175) (f1 := 0) (w1 := 0) (as := [(2, 34), (0, 4), (0, (-4))]) (rest := []) (M := tbM169) rfl rfl rfl trivial (Nat.le_of_ble_eq_true rfl) (Nat.le_of_ble_eq_true rfl) (Nat.le_of_ble_eq_true rfl) ?_
      refine e3_mono (sS_end L xs _ _ _ _ _ h) (fun r H1 G2 h => ?_)
      obtain ⟨rfl, h⟩ := h
      change e3_Ev _ _ _ _ 196 [(2, 34), (3, 0), (0, l2), (0, l3), (0, l4), (3, 0), (3, 0)] [] H1 G2 _
      refine e3_K [0] 197 [(2, 34), (3, 0), (0, l2), (0, l3), (0, l4), (3, 0), (3, 0)] [(0, l3)] (H1) (G2) (wZ L xs) (M := tbM169) rfl rfl trivial ?_
      exact e3_reti (M := tbM169) rfl rfl rfl ⟨_, rfl, h⟩
    · replace h := h.2 hc
      refine e3_K [0, 4, 0, 2] 44 [(2, 34), (3, 0), (0, l2), (0, l3), (0, l4), (3, 0), (3, 0)] [(0, (H 34 5)), (2, 14)] (H) (G) (wZ L xs) (M := tbM169) rfl rfl ⟨trivial, trivial, trivial⟩ ?_
      refine e3_call (o := 0) (k := 83) (M2 := tbM83) (f1 := 0) (w1 := 0) (as := [(2, 14), (0, (H 34 5))]) (rest := []) (M := tbM169) rfl rfl rfl trivial (Nat.le_of_ble_eq_true rfl) (Nat.le_of_ble_eq_true rfl) (Nat.le_of_ble_eq_true rfl) ?_
      refine e3_mono (sR_functionAt L xs _ _ _ _ h) (fun r H4 G5 h => ?_)
      obtain ⟨x6, rfl, h⟩ := h
      change e3_Ev _ _ _ _ 47 [(2, 34), (3, 0), (0, l2), (0, l3), (0, l4), (3, 0), (3, 0)] [(2, x6)] H4 G5 _
      refine e3_K [0, 0, 4, 0, 0, 2] 57 [(2, 34), (3, 0), (0, l2), (0, l3), (0, l4), (2, x6), (3, 0)] [] (e3_up H4 37 2 l4) (G5) (wZ L xs) (M := tbM169) rfl rfl ⟨trivial, ⟨by decide, by decide⟩, trivial⟩ ?_
      generalize hH7 : (e3_up H4 37 2 l4) = H7
      replace h := h H7 hH7.symm
      refine e3_K [0, 4, 0, 0, 2, 2] 67 [(2, 34), (3, 0), (0, l2), (0, l3), (0, l4), (2, x6), (3, 0)] [] (e3_up H7 37 5 (H7 34 5)) (G5) (wZ L xs) (M := tbM169) rfl rfl ⟨trivial, trivial, ⟨by decide, by decide⟩, trivial⟩ ?_
      generalize hH8 : (e3_up H7 37 5 (H7 34 5)) = H8
      replace h := h H8 hH8.symm
      refine e3_K [0] 69 [(2, 34), (3, 0), (0, l2), (0, l3), (0, l4), (2, x6), (3, 0)] [(2, x6)] (H8) (G5) (wZ L xs) (M := tbM169) rfl rfl trivial ?_
      refine e3_br (M := tbM169) rfl rfl rfl Iff.rfl (fun hc => ?_) (fun hc => ?_)
      · replace h := h.1 hc
        refine e3_K [0, 0] 95 [(2, 34), (3, 0), (0, l2), (0, l3), (0, l4), (2, x6), (3, 0)] [(2, (-1))] (H8) (G5) (wZ L xs) (M := tbM169) rfl rfl trivial ?_
        refine e3_fgt [true, false, true, true, true, false, false] ?_
        exact sS_run_95 L xs Q (fun l2 l3 l4 H G => wS_run_29 Q nn l2 l3 l4 H G) ih _ _ _ _ _ _ h
      · replace h := h.2 hc
        refine e3_K [0] 77 [(2, 34), (3, 0), (0, l2), (0, l3), (0, l4), (2, x6), (3, 0)] [(0, l2)] (H8) (G5) (wZ L xs) (M := tbM169) rfl rfl trivial ?_
        refine e3_br (M := tbM169) rfl rfl rfl Iff.rfl (fun hc => ?_) (fun hc => ?_)
        · replace h := h.1 hc
          refine e3_K [0, 0] 92 [(2, 34), (3, 0), (0, l2), (0, l3), (0, l4), (2, x6), (3, 0)] [(2, x6), (2, 34)] (H8) (G5) (wZ L xs) (M := tbM169) rfl rfl trivial ?_
          refine e3_call (o := 0) (k := 183) (M2 := tbM183) (f1 := 32) (w1 := 735) (as := [(2, 34), (2, x6)]) (rest := []) (M := tbM169) rfl rfl rfl trivial (Nat.le_of_ble_eq_true rfl) (Nat.le_of_ble_eq_true rfl) (Nat.le_of_ble_eq_true rfl) ?_
          refine e3_mono (sS_byRules L xs _ _ _ _ h) (fun r H9 G10 h => ?_)
          obtain ⟨x11, rfl, h⟩ := h
          change e3_Ev _ _ _ _ 95 [(2, 34), (3, 0), (0, l2), (0, l3), (0, l4), (2, x6), (3, 0)] [(2, x11)] H9 G10 _
          refine e3_fgt [true, false, true, true, true, false, false] ?_
          exact sS_run_95 L xs Q (fun l2 l3 l4 H G => wS_run_29 Q nn l2 l3 l4 H G) ih _ _ _ _ _ _ h
        · replace h := h.2 hc
          refine e3_K [0, 0] 83 [(2, 34), (3, 0), (0, l2), (0, l3), (0, l4), (2, x6), (3, 0)] [(2, x6), (2, 34)] (H8) (G5) (wZ L xs) (M := tbM169) rfl rfl trivial ?_
          refine e3_call (o := 0) (k := 170) (M2 := tbM170) (f1 := 22) (w1 := 486) (as := [(2, 34), (2, x6)]) (rest := []) (M := tbM169) rfl rfl rfl trivial (Nat.le_of_ble_eq_true rfl) (Nat.le_of_ble_eq_true rfl) (Nat.le_of_ble_eq_true rfl) ?_
          refine e3_mono (sS_byTree L xs _ _ _ _ h) (fun r H12 G13 h => ?_)
          obtain ⟨x14, rfl, h⟩ := h
          change e3_Ev _ _ _ _ 86 [(2, 34), (3, 0), (0, l2), (0, l3), (0, l4), (2, x6), (3, 0)] [(2, x14)] H12 G13 _
          refine e3_K [0] 95 [(2, 34), (3, 0), (0, l2), (0, l3), (0, l4), (2, x6), (3, 0)] [(2, x14)] (H12) (G13) (wZ L xs) (M := tbM169) rfl rfl trivial ?_
          refine e3_fgt [true, false, true, true, true, false, false] ?_
          exact sS_run_95 L xs Q (fun l2 l3 l4 H G => wS_run_29 Q nn l2 l3 l4 H G) ih _ _ _ _ _ _ h
set_option maxRecDepth 100000 in
set_option maxHeartbeats 4000000 in
theorem sS_run (L : Nat) (xs : Nat → Int32) (Q : Int → e3_H → e3_G → Prop) (l1 : Int) (l2 : Int) (H : e3_H) (G : e3_G) (h : wS_run Q l1 l2 H G) : e3_Ev (wB L xs) 33 758 169 0 [(2, 34), (0, l1), (0, l2), (3, 0), (3, 0), (3, 0), (3, 0)] [] H G (e3_q0 Q) := by
  unfold wS_run at h
  refine e3_K [0, 4, 0] 5 [(2, 34), (0, l1), (0, l2), (3, 0), (3, 0), (3, 0), (3, 0)] [(0, 0), (2, 37)] (H) (G) (wZ L xs) (M := tbM169) rfl rfl ⟨trivial, trivial⟩ ?_
  refine e3_call (o := 0) (k := 310) (M2 := tbM310) (f1 := 0) (w1 := 0) (as := [(2, 37), (0, 0)]) (rest := []) (M := tbM169) rfl rfl rfl trivial (Nat.le_of_ble_eq_true rfl) (Nat.le_of_ble_eq_true rfl) (Nat.le_of_ble_eq_true rfl) ?_
  refine e3_mono (sJ_fill_AII L xs _ _ _ _ _ h) (fun r H1 G2 h => ?_)
  obtain ⟨rfl, h⟩ := h
  change e3_Ev _ _ _ _ 8 [(2, 34), (0, l1), (0, l2), (3, 0), (3, 0), (3, 0), (3, 0)] [] H1 G2 _
  refine e3_K [0, 0, 2] 13 [(2, 34), (0, l1), (0, l2), (3, 0), (3, 0), (3, 0), (3, 0)] [] (e3_up H1 34 9 0) (G2) (wZ L xs) (M := tbM169) rfl rfl ⟨trivial, trivial⟩ ?_
  generalize hH4 : (e3_up H1 34 9 0) = H4
  replace h := h H4 hH4.symm
  refine e3_K [0, 0, 2] 18 [(2, 34), (0, l1), (0, l2), (3, 0), (3, 0), (3, 0), (3, 0)] [] (e3_up H4 34 11 0) (G2) (wZ L xs) (M := tbM169) rfl rfl ⟨trivial, trivial⟩ ?_
  generalize hH5 : (e3_up H4 34 11 0) = H5
  replace h := h H5 hH5.symm
  refine e3_K [0, 0, 0, 0, 2] 26 [(2, 34), (0, l1), (0, l2), (0, (-4)), (3, 0), (3, 0), (3, 0)] [] (e3_up H5 34 5 l1) (G2) (wZ L xs) (M := tbM169) rfl rfl ⟨trivial, trivial⟩ ?_
  generalize hH6 : (e3_up H5 34 5 l1) = H6
  replace h := h H6 hH6.symm
  refine e3_K [0, 0] 29 [(2, 34), (0, l1), (0, l2), (0, (-4)), (0, 1), (3, 0), (3, 0)] [] (H6) (G2) (wZ L xs) (M := tbM169) rfl rfl trivial ?_
  refine e3_fgt [true, false, true, true, true, false, false] ?_
  obtain ⟨nl, h⟩ := h
  exact sS_run_29 L xs Q nl _ _ _ _ _ h
