/-- LetterPostModel.unreached(II)I -/
def wM_unreached_26 (Q : Int → e3_H → e3_G → Prop)  (H : e3_H) (G : e3_G) : Prop :=
  Q (-1) H G
def wM_unreached_105 (Q : Int → e3_H → e3_G → Prop) (s0 : Int) (H : e3_H) (G : e3_G) : Prop :=
  Q s0 H G
def wM_unreached_89 (Q : Int → e3_H → e3_G → Prop) (k48 : Int → Int → Int → Int → e3_H → e3_G → Prop) (l1 : Int) (l2 : Int) (l4 : Int) (s0 : Int) (H : e3_H) (G : e3_G) : Prop :=
  (k48 l1 l2 s0 (e3_w32 (l4 + 1)) H G)
def wM_unreached_88 (Q : Int → e3_H → e3_G → Prop) (k48 : Int → Int → Int → Int → e3_H → e3_G → Prop) (l1 : Int) (l2 : Int) (l4 : Int) (H : e3_H) (G : e3_G) : Prop :=
  (wM_unreached_89 Q k48 l1 l2 l4 0 H G)
def wM_unreached_48 (Q : Int → e3_H → e3_G → Prop) : Nat → Int → Int → Int → Int → e3_H → e3_G → Prop
  | 0, _, _, _, _, _, _ => False
  | nn + 1, l1, l2, l3, l4, H, G => (((l4 : Int) < (H 99 12) → (((l3 : Int) = 0 → (wM_unreached_88 Q (fun l1 l2 l3 l4 H G => wM_unreached_48 Q nn l1 l2 l3 l4 H G) l1 l2 l4 H G)) ∧ (¬ ((l3 : Int) = 0) → ((0 : Int) ≤ (e3_w32 (3600 + l4)) ∧ ((e3_w32 (3600 + l4)) : Int) < 3900) ∧ ((((H 103 (e3_w32 (3600 + l4))) : Int) = (e3_w32 ((e3_w32 (16 * l1)) + l2)) → (wM_unreached_88 Q (fun l1 l2 l3 l4 H G => wM_unreached_48 Q nn l1 l2 l3 l4 H G) l1 l2 l4 H G)) ∧ (¬ (((H 103 (e3_w32 (3600 + l4))) : Int) = (e3_w32 ((e3_w32 (16 * l1)) + l2))) → (wM_unreached_89 Q (fun l1 l2 l3 l4 H G => wM_unreached_48 Q nn l1 l2 l3 l4 H G) l1 l2 l4 1 H G)))))) ∧ (¬ ((l4 : Int) < (H 99 12)) → (((l3 : Int) = 0 → (wM_unreached_105 Q 0 H G)) ∧ (¬ ((l3 : Int) = 0) → (wM_unreached_105 Q 1 H G)))))
def wM_unreached (Q : Int → e3_H → e3_G → Prop) (l1 : Int) (l2 : Int) (H : e3_H) (G : e3_G) : Prop :=
  (wM_isFunction (fun x3 H1 G2 => (((x3 : Int) = 0 → (wM_unreached_26 Q H1 G2)) ∧ (¬ ((x3 : Int) = 0) → ((0 : Int) ≤ l1 ∧ (l1 : Int) < 12) ∧ (wM_in (fun x7 H5 G6 => (((x7 : Int) = 0 → (wM_unreached_26 Q H5 G6)) ∧ (¬ ((x7 : Int) = 0) → (wM_makes (fun x10 H8 G9 => (((x10 : Int) = 0 → Q (-3) H8 G9) ∧ (¬ ((x10 : Int) = 0) → (∃ n, wM_unreached_48 Q n l1 l2 1 0 H8 G9)))) 12 l1 0 0 H5 G6)))) l2 0 (e3_w32 ((H1 70 l1) - 1)) H1 G2)))) l1 H G)
set_option maxRecDepth 100000 in
set_option maxHeartbeats 4000000 in
theorem sM_unreached_26 (L : Nat) (xs : Nat → Int32) (Q : Int → e3_H → e3_G → Prop)  (H : e3_H) (G : e3_G) (h : wM_unreached_26 Q  H G) : e3_Ev (wB L xs) 6 157 274 26 [(3, 0), (3, 0), (3, 0), (3, 0), (3, 0)] [] H G (e3_q0 Q) := by
  unfold wM_unreached_26 at h
  refine e3_K [0] 27 [(3, 0), (3, 0), (3, 0), (3, 0), (3, 0)] [(0, (-1))] (H) (G) (wZ L xs) (M := tbM274) rfl rfl trivial ?_
  exact e3_reti (M := tbM274) rfl rfl rfl ⟨_, rfl, h⟩
set_option maxRecDepth 100000 in
set_option maxHeartbeats 4000000 in
theorem sM_unreached_105 (L : Nat) (xs : Nat → Int32) (Q : Int → e3_H → e3_G → Prop) (s0 : Int) (H : e3_H) (G : e3_G) (h : wM_unreached_105 Q s0 H G) : e3_Ev (wB L xs) 6 157 274 105 [(3, 0), (3, 0), (3, 0), (3, 0), (3, 0)] [(0, s0)] H G (e3_q0 Q) := by
  unfold wM_unreached_105 at h
  exact e3_reti (M := tbM274) rfl rfl rfl ⟨_, rfl, h⟩
set_option maxRecDepth 100000 in
set_option maxHeartbeats 4000000 in
theorem sM_unreached_89 (L : Nat) (xs : Nat → Int32) (Q : Int → e3_H → e3_G → Prop) (k48 : Int → Int → Int → Int → e3_H → e3_G → Prop) (hk48 : ∀ (l1 : Int) (l2 : Int) (l3 : Int) (l4 : Int) (H : e3_H) (G : e3_G), k48 l1 l2 l3 l4 H G → e3_Ev (wB L xs) 6 157 274 48 [(2, 40), (0, l1), (0, l2), (0, l3), (0, l4)] [] H G (e3_q0 Q)) (l1 : Int) (l2 : Int) (l4 : Int) (s0 : Int) (H : e3_H) (G : e3_G) (h : wM_unreached_89 Q k48 l1 l2 l4 s0 H G) : e3_Ev (wB L xs) 6 157 274 89 [(2, 40), (0, l1), (0, l2), (3, 0), (0, l4)] [(0, s0)] H G (e3_q0 Q) := by
  unfold wM_unreached_89 at h
  refine e3_K [0, 0, 0] 48 [(2, 40), (0, l1), (0, l2), (0, s0), (0, (e3_w32 (l4 + 1)))] [] (H) (G) (wZ L xs) (M := tbM274) rfl rfl trivial ?_
  exact hk48 _ _ _ _ _ _ h
set_option maxRecDepth 100000 in
set_option maxHeartbeats 4000000 in
theorem sM_unreached_88 (L : Nat) (xs : Nat → Int32) (Q : Int → e3_H → e3_G → Prop) (k48 : Int → Int → Int → Int → e3_H → e3_G → Prop) (hk48 : ∀ (l1 : Int) (l2 : Int) (l3 : Int) (l4 : Int) (H : e3_H) (G : e3_G), k48 l1 l2 l3 l4 H G → e3_Ev (wB L xs) 6 157 274 48 [(2, 40), (0, l1), (0, l2), (0, l3), (0, l4)] [] H G (e3_q0 Q)) (l1 : Int) (l2 : Int) (l4 : Int) (H : e3_H) (G : e3_G) (h : wM_unreached_88 Q k48 l1 l2 l4 H G) : e3_Ev (wB L xs) 6 157 274 88 [(2, 40), (0, l1), (0, l2), (3, 0), (0, l4)] [] H G (e3_q0 Q) := by
  unfold wM_unreached_88 at h
  refine e3_K [0] 89 [(2, 40), (0, l1), (0, l2), (3, 0), (0, l4)] [(0, 0)] (H) (G) (wZ L xs) (M := tbM274) rfl rfl trivial ?_
  exact sM_unreached_89 L xs Q k48 hk48 _ _ _ _ _ _ h
set_option maxRecDepth 100000 in
set_option maxHeartbeats 4000000 in
theorem sM_unreached_48 (L : Nat) (xs : Nat → Int32) (Q : Int → e3_H → e3_G → Prop) : ∀ (nl : Nat) (l1 : Int) (l2 : Int) (l3 : Int) (l4 : Int) (H : e3_H) (G : e3_G), wM_unreached_48 Q nl l1 l2 l3 l4 H G → e3_Ev (wB L xs) 6 157 274 48 [(2, 40), (0, l1), (0, l2), (0, l3), (0, l4)] [] H G (e3_q0 Q) := by
  intro nl
  induction nl with
  | zero => intro l1 l2 l3 l4 H G h; exact h.elim
  | succ nn ih =>
    intro l1 l2 l3 l4 H G h
    have h : (((l4 : Int) < (H 99 12) → (((l3 : Int) = 0 → (wM_unreached_88 Q (fun l1 l2 l3 l4 H G => wM_unreached_48 Q nn l1 l2 l3 l4 H G) l1 l2 l4 H G)) ∧ (¬ ((l3 : Int) = 0) → ((0 : Int) ≤ (e3_w32 (3600 + l4)) ∧ ((e3_w32 (3600 + l4)) : Int) < 3900) ∧ ((((H 103 (e3_w32 (3600 + l4))) : Int) = (e3_w32 ((e3_w32 (16 * l1)) + l2)) → (wM_unreached_88 Q (fun l1 l2 l3 l4 H G => wM_unreached_48 Q nn l1 l2 l3 l4 H G) l1 l2 l4 H G)) ∧ (¬ (((H 103 (e3_w32 (3600 + l4))) : Int) = (e3_w32 ((e3_w32 (16 * l1)) + l2))) → (wM_unreached_89 Q (fun l1 l2 l3 l4 H G => wM_unreached_48 Q nn l1 l2 l3 l4 H G) l1 l2 l4 1 H G)))))) ∧ (¬ ((l4 : Int) < (H 99 12)) → (((l3 : Int) = 0 → (wM_unreached_105 Q 0 H G)) ∧ (¬ ((l3 : Int) = 0) → (wM_unreached_105 Q 1 H G))))) := h
    refine e3_K [0, 0, 4, 0, 2] 57 [(2, 40), (0, l1), (0, l2), (0, l3), (0, l4)] [(0, (H 99 12)), (0, l4)] (H) (G) (wZ L xs) (M := tbM274) rfl rfl ⟨trivial, ⟨by decide, by decide⟩, trivial⟩ ?_
    refine e3_br (M := tbM274) rfl rfl rfl Iff.rfl (fun hc => ?_) (fun hc => ?_)
    · replace h := h.1 hc
      refine e3_K [0] 61 [(2, 40), (0, l1), (0, l2), (0, l3), (0, l4)] [(0, l3)] (H) (G) (wZ L xs) (M := tbM274) rfl rfl trivial ?_
      refine e3_br (M := tbM274) rfl rfl rfl Iff.rfl (fun hc => ?_) (fun hc => ?_)
      · replace h := h.1 hc
        refine e3_fgt [true, true, true, false, true] ?_
        exact sM_unreached_88 L xs Q (fun l1 l2 l3 l4 H G => wM_unreached_48 Q nn l1 l2 l3 l4 H G) ih _ _ _ _ _ h
      · replace h := h.2 hc
        obtain ⟨o1, h⟩ := h
        refine e3_K [0, 4, 0, 0, 0, 2, 0, 0, 0, 0, 0] 81 [(2, 40), (0, l1), (0, l2), (0, l3), (0, l4)] [(0, (e3_w32 ((e3_w32 (16 * l1)) + l2))), (0, (H 103 (e3_w32 (3600 + l4))))] (H) (G) (wZ L xs) (M := tbM274) rfl rfl ⟨trivial, o1, trivial⟩ ?_
        refine e3_br (M := tbM274) rfl rfl rfl Iff.rfl (fun hc => ?_) (fun hc => ?_)
        · replace h := h.1 hc
          refine e3_fgt [true, true, true, false, true] ?_
          exact sM_unreached_88 L xs Q (fun l1 l2 l3 l4 H G => wM_unreached_48 Q nn l1 l2 l3 l4 H G) ih _ _ _ _ _ h
        · replace h := h.2 hc
          refine e3_K [0, 0] 89 [(2, 40), (0, l1), (0, l2), (0, l3), (0, l4)] [(0, 1)] (H) (G) (wZ L xs) (M := tbM274) rfl rfl trivial ?_
          refine e3_fgt [true, true, true, false, true] ?_
          exact sM_unreached_89 L xs Q (fun l1 l2 l3 l4 H G => wM_unreached_48 Q nn l1 l2 l3 l4 H G) ih _ _ _ _ _ _ h
    · replace h := h.2 hc
      refine e3_K [0] 97 [(2, 40), (0, l1), (0, l2), (0, l3), (0, l4)] [(0, l3)] (H) (G) (wZ L xs) (M := tbM274) rfl rfl trivial ?_
      refine e3_br (M := tbM274) rfl rfl rfl Iff.rfl (fun hc => ?_) (fun hc => ?_)
      · replace h := h.1 hc
        refine e3_K [0] 105 [(2, 40), (0, l1), (0, l2), (0, l3), (0, l4)] [(0, 0)] (H) (G) (wZ L xs) (M := tbM274) rfl rfl trivial ?_
        refine e3_fgt [false, false, false, false, false] ?_
        exact sM_unreached_105 L xs Q _ _ _ h
      · replace h := h.2 hc
        refine e3_K [0, 0] 105 [(2, 40), (0, l1), (0, l2), (0, l3), (0, l4)] [(0, 1)] (H) (G) (wZ L xs) (M := tbM274) rfl rfl trivial ?_
        refine e3_fgt [false, false, false, false, false] ?_
        exact sM_unreached_105 L xs Q _ _ _ h
set_option maxRecDepth 100000 in
set_option maxHeartbeats 4000000 in
theorem sM_unreached (L : Nat) (xs : Nat → Int32) (Q : Int → e3_H → e3_G → Prop) (l1 : Int) (l2 : Int) (H : e3_H) (G : e3_G) (h : wM_unreached Q l1 l2 H G) : e3_Ev (wB L xs) 6 157 274 0 [(2, 40), (0, l1), (0, l2), (3, 0), (3, 0)] [] H G (e3_q0 Q) := by
  unfold wM_unreached at h
  refine e3_K [0, 0] 2 [(2, 40), (0, l1), (0, l2), (3, 0), (3, 0)] [(0, l1), (2, 40)] (H) (G) (wZ L xs) (M := tbM274) rfl rfl trivial ?_
  refine e3_call (o := 0) (k := 264) (M2 := tbM264) (f1 := 1) (w1 := 25) (as := [(2, 40), (0, l1)]) (rest := []) (M := tbM274) rfl rfl rfl trivial (Nat.le_of_ble_eq_true rfl) (Nat.le_of_ble_eq_true rfl) (Nat.le_of_ble_eq_true rfl) ?_
  refine e3_mono (sM_isFunction L xs _ _ _ _ h) (fun r H1 G2 h => ?_)
  obtain ⟨x3, rfl, h⟩ := h
  change e3_Ev _ _ _ _ 5 [(2, 40), (0, l1), (0, l2), (3, 0), (3, 0)] [(0, x3)] H1 G2 _
  refine e3_br (M := tbM274) rfl rfl rfl Iff.rfl (fun hc => ?_) (fun hc => ?_)
  · replace h := h.1 hc
    refine e3_fgt [false, false, false, false, false] ?_
    exact sM_unreached_26 L xs Q _ _ h
  · replace h := h.2 hc
    obtain ⟨o4, h⟩ := h
    refine e3_K [0, 0, 0, 0, 4, 0, 2, 0, 0, 0] 20 [(2, 40), (0, l1), (0, l2), (3, 0), (3, 0)] [(1, (e3_w32 ((H1 70 l1) - 1))), (1, 0), (1, l2)] (H1) (G2) (wZ L xs) (M := tbM274) rfl rfl ⟨trivial, o4, trivial⟩ ?_
    refine e3_call (o := 0) (k := 198) (M2 := tbM198) (f1 := 0) (w1 := 0) (as := [(1, l2), (1, 0), (1, (e3_w32 ((H1 70 l1) - 1)))]) (rest := []) (M := tbM274) rfl rfl rfl trivial (Nat.le_of_ble_eq_true rfl) (Nat.le_of_ble_eq_true rfl) (Nat.le_of_ble_eq_true rfl) ?_
    refine e3_mono (sM_in L xs _ _ _ _ _ _ h) (fun r H5 G6 h => ?_)
    obtain ⟨x7, rfl, h⟩ := h
    change e3_Ev _ _ _ _ 23 [(2, 40), (0, l1), (0, l2), (3, 0), (3, 0)] [(0, x7)] H5 G6 _
    refine e3_br (M := tbM274) rfl rfl rfl Iff.rfl (fun hc => ?_) (fun hc => ?_)
    · replace h := h.1 hc
      refine e3_fgt [false, false, false, false, false] ?_
      exact sM_unreached_26 L xs Q _ _ h
    · replace h := h.2 hc
      refine e3_K [0, 0, 0, 0, 0] 34 [(2, 40), (0, l1), (0, l2), (3, 0), (3, 0)] [(0, 0), (0, 0), (0, l1), (0, 12), (2, 40)] (H5) (G6) (wZ L xs) (M := tbM274) rfl rfl trivial ?_
      refine e3_call (o := 0) (k := 242) (M2 := tbM242) (f1 := 5) (w1 := 129) (as := [(2, 40), (0, 12), (0, l1), (0, 0), (0, 0)]) (rest := []) (M := tbM274) rfl rfl rfl trivial (Nat.le_of_ble_eq_true rfl) (Nat.le_of_ble_eq_true rfl) (Nat.le_of_ble_eq_true rfl) ?_
      refine e3_mono (sM_makes L xs _ _ _ _ _ _ _ h) (fun r H8 G9 h => ?_)
      obtain ⟨x10, rfl, h⟩ := h
      change e3_Ev _ _ _ _ 37 [(2, 40), (0, l1), (0, l2), (3, 0), (3, 0)] [(0, x10)] H8 G9 _
      refine e3_br (M := tbM274) rfl rfl rfl Iff.rfl (fun hc => ?_) (fun hc => ?_)
      · replace h := h.1 hc
        refine e3_K [0] 42 [(2, 40), (0, l1), (0, l2), (3, 0), (3, 0)] [(0, (-3))] (H8) (G9) (wZ L xs) (M := tbM274) rfl rfl trivial ?_
        exact e3_reti (M := tbM274) rfl rfl rfl ⟨_, rfl, h⟩
      · replace h := h.2 hc
        refine e3_K [0, 0, 0, 0] 48 [(2, 40), (0, l1), (0, l2), (0, 1), (0, 0)] [] (H8) (G9) (wZ L xs) (M := tbM274) rfl rfl trivial ?_
        obtain ⟨nl, h⟩ := h
        exact sM_unreached_48 L xs Q nl _ _ _ _ _ _ h
/-- LetterPostModel.newValue(IIJ)I -/
def wM_newValue (Q : Int → e3_H → e3_G → Prop) (l1 : Int) (l2 : Int) (l3 : Int) (H : e3_H) (G : e3_G) : Prop :=
  ((((H 40 109) : Int) = 160 → Q (-3) H G) ∧ (¬ (((H 40 109) : Int) = 160) → ((0 : Int) ≤ (H 40 109) ∧ ((H 40 109) : Int) < 160) ∧ ∀ H1 : e3_H, H1 = e3_up H 128 (H 40 109) l1 → ((0 : Int) ≤ (H1 40 109) ∧ ((H1 40 109) : Int) < 160) ∧ ∀ H3 : e3_H, H3 = e3_up H1 129 (H1 40 109) l2 → ((0 : Int) ≤ (H3 40 109) ∧ ((H3 40 109) : Int) < 160) ∧ ∀ H5 : e3_H, H5 = e3_up H3 130 (H3 40 109) l3 → ((0 : Int) ≤ (H5 40 109) ∧ ((H5 40 109) : Int) < 160) ∧ ∀ H7 : e3_H, H7 = e3_up H5 131 (H5 40 109) 1 → ∀ H9 : e3_H, H9 = e3_up H7 40 109 (e3_w32 ((H7 40 109) + 1)) → Q (e3_w32 ((H9 40 109) - 1)) H9 G))
set_option maxRecDepth 100000 in
set_option maxHeartbeats 4000000 in
theorem sM_newValue (L : Nat) (xs : Nat → Int32) (Q : Int → e3_H → e3_G → Prop) (l1 : Int) (l2 : Int) (l3 : Int) (H : e3_H) (G : e3_G) (h : wM_newValue Q l1 l2 l3 H G) : e3_Ev (wB L xs) 0 0 276 0 [(2, 40), (0, l1), (0, l2), (1, l3), (3, 0)] [] H G (e3_q0 Q) := by
  unfold wM_newValue at h
  refine e3_K [0, 2, 0] 7 [(2, 40), (0, l1), (0, l2), (1, l3), (3, 0)] [(0, 160), (0, (H 40 109))] (H) (G) (wZ L xs) (M := tbM276) rfl rfl ⟨trivial, trivial⟩ ?_
  refine e3_br (M := tbM276) rfl rfl rfl Iff.rfl (fun hc => ?_) (fun hc => ?_)
  · replace h := h.1 hc
    refine e3_K [0] 12 [(2, 40), (0, l1), (0, l2), (1, l3), (3, 0)] [(0, (-3))] (H) (G) (wZ L xs) (M := tbM276) rfl rfl trivial ?_
    exact e3_reti (M := tbM276) rfl rfl rfl ⟨_, rfl, h⟩
  · replace h := h.2 hc
    obtain ⟨o2, h⟩ := h
    refine e3_K [0, 4, 0, 2, 0, 2] 23 [(2, 40), (0, l1), (0, l2), (1, l3), (3, 0)] [] (e3_up H 128 (H 40 109) l1) (G) (wZ L xs) (M := tbM276) rfl rfl ⟨trivial, trivial, o2, trivial⟩ ?_
    generalize hH1 : (e3_up H 128 (H 40 109) l1) = H1
    replace h := h H1 hH1.symm
    obtain ⟨o4, h⟩ := h
    refine e3_K [0, 4, 0, 2, 0, 2] 33 [(2, 40), (0, l1), (0, l2), (1, l3), (3, 0)] [] (e3_up H1 129 (H1 40 109) l2) (G) (wZ L xs) (M := tbM276) rfl rfl ⟨trivial, trivial, o4, trivial⟩ ?_
    generalize hH3 : (e3_up H1 129 (H1 40 109) l2) = H3
    replace h := h H3 hH3.symm
    obtain ⟨o6, h⟩ := h
    refine e3_K [0, 4, 0, 2, 0, 2] 43 [(2, 40), (0, l1), (0, l2), (1, l3), (3, 0)] [] (e3_up H3 130 (H3 40 109) l3) (G) (wZ L xs) (M := tbM276) rfl rfl ⟨trivial, trivial, o6, trivial⟩ ?_
    generalize hH5 : (e3_up H3 130 (H3 40 109) l3) = H5
    replace h := h H5 hH5.symm
    obtain ⟨o8, h⟩ := h
    refine e3_K [0, 4, 0, 2, 0, 2] 53 [(2, 40), (0, l1), (0, l2), (1, l3), (3, 0)] [] (e3_up H5 131 (H5 40 109) 1) (G) (wZ L xs) (M := tbM276) rfl rfl ⟨trivial, trivial, o8, trivial⟩ ?_
    generalize hH7 : (e3_up H5 131 (H5 40 109) 1) = H7
    replace h := h H7 hH7.symm
    refine e3_K [0, 0, 2, 0, 0, 2] 63 [(2, 40), (0, l1), (0, l2), (1, l3), (3, 0)] [] (e3_up H7 40 109 (e3_w32 ((H7 40 109) + 1))) (G) (wZ L xs) (M := tbM276) rfl rfl ⟨trivial, trivial, trivial⟩ ?_
    generalize hH9 : (e3_up H7 40 109 (e3_w32 ((H7 40 109) + 1))) = H9
    replace h := h H9 hH9.symm
    refine e3_K [0, 2, 0, 0] 69 [(2, 40), (0, l1), (0, l2), (1, l3), (3, 0)] [(0, (e3_w32 ((H9 40 109) - 1)))] (H9) (G) (wZ L xs) (M := tbM276) rfl rfl ⟨trivial, trivial⟩ ?_
    exact e3_reti (M := tbM276) rfl rfl rfl ⟨_, rfl, h⟩
/-- LetterPostModel.whole(I)I -/
def wM_whole (Q : Int → e3_H → e3_G → Prop) (l1 : Int) (H : e3_H) (G : e3_G) : Prop :=
  (wM_newValue (fun x3 H1 G2 => Q x3 H1 G2) 0 l1 0 H G)
set_option maxRecDepth 100000 in
set_option maxHeartbeats 4000000 in
theorem sM_whole (L : Nat) (xs : Nat → Int32) (Q : Int → e3_H → e3_G → Prop) (l1 : Int) (H : e3_H) (G : e3_G) (h : wM_whole Q l1 H G) : e3_Ev (wB L xs) 1 24 275 0 [(2, 40), (0, l1)] [] H G (e3_q0 Q) := by
  unfold wM_whole at h
  refine e3_K [0, 0, 0, 0] 4 [(2, 40), (0, l1)] [(1, 0), (0, l1), (0, 0), (2, 40)] (H) (G) (wZ L xs) (M := tbM275) rfl rfl trivial ?_
  refine e3_call (o := 0) (k := 276) (M2 := tbM276) (f1 := 0) (w1 := 0) (as := [(2, 40), (0, 0), (0, l1), (1, 0)]) (rest := []) (M := tbM275) rfl rfl rfl trivial (Nat.le_of_ble_eq_true rfl) (Nat.le_of_ble_eq_true rfl) (Nat.le_of_ble_eq_true rfl) ?_
  refine e3_mono (sM_newValue L xs _ _ _ _ _ _ h) (fun r H1 G2 h => ?_)
  obtain ⟨x3, rfl, h⟩ := h
  change e3_Ev _ _ _ _ 7 [(2, 40), (0, l1)] [(0, x3)] H1 G2 _
  exact e3_reti (M := tbM275) rfl rfl rfl ⟨_, rfl, h⟩
/-- LetterPostModel.truth(I)I -/
def wM_truth_11 (Q : Int → e3_H → e3_G → Prop) (s0 : Int) (s1 : Int) (H : e3_H) (G : e3_G) : Prop :=
  (wM_newValue (fun x3 H1 G2 => Q x3 H1 G2) s1 s0 0 H G)
def wM_truth (Q : Int → e3_H → e3_G → Prop) (l1 : Int) (H : e3_H) (G : e3_G) : Prop :=
  (((l1 : Int) = 0 → (wM_truth_11 Q 0 1 H G)) ∧ (¬ ((l1 : Int) = 0) → (wM_truth_11 Q 1 1 H G)))
set_option maxRecDepth 100000 in
set_option maxHeartbeats 4000000 in
theorem sM_truth_11 (L : Nat) (xs : Nat → Int32) (Q : Int → e3_H → e3_G → Prop) (s0 : Int) (s1 : Int) (H : e3_H) (G : e3_G) (h : wM_truth_11 Q s0 s1 H G) : e3_Ev (wB L xs) 1 24 277 11 [(3, 0), (3, 0)] [(0, s0), (0, s1), (2, 40)] H G (e3_q0 Q) := by
  unfold wM_truth_11 at h
  refine e3_K [0] 12 [(3, 0), (3, 0)] [(1, 0), (0, s0), (0, s1), (2, 40)] (H) (G) (wZ L xs) (M := tbM277) rfl rfl trivial ?_
  refine e3_call (o := 0) (k := 276) (M2 := tbM276) (f1 := 0) (w1 := 0) (as := [(2, 40), (0, s1), (0, s0), (1, 0)]) (rest := []) (M := tbM277) rfl rfl rfl trivial (Nat.le_of_ble_eq_true rfl) (Nat.le_of_ble_eq_true rfl) (Nat.le_of_ble_eq_true rfl) ?_
  refine e3_mono (sM_newValue L xs _ _ _ _ _ _ h) (fun r H1 G2 h => ?_)
  obtain ⟨x3, rfl, h⟩ := h
  change e3_Ev _ _ _ _ 15 [(3, 0), (3, 0)] [(0, x3)] H1 G2 _
  exact e3_reti (M := tbM277) rfl rfl rfl ⟨_, rfl, h⟩
set_option maxRecDepth 100000 in
set_option maxHeartbeats 4000000 in
theorem sM_truth (L : Nat) (xs : Nat → Int32) (Q : Int → e3_H → e3_G → Prop) (l1 : Int) (H : e3_H) (G : e3_G) (h : wM_truth Q l1 H G) : e3_Ev (wB L xs) 1 24 277 0 [(2, 40), (0, l1)] [] H G (e3_q0 Q) := by
  unfold wM_truth at h
  refine e3_K [0, 0, 0] 3 [(2, 40), (0, l1)] [(0, l1), (0, 1), (2, 40)] (H) (G) (wZ L xs) (M := tbM277) rfl rfl trivial ?_
  refine e3_br (M := tbM277) rfl rfl rfl Iff.rfl (fun hc => ?_) (fun hc => ?_)
  · replace h := h.1 hc
    refine e3_K [0] 11 [(2, 40), (0, l1)] [(0, 0), (0, 1), (2, 40)] (H) (G) (wZ L xs) (M := tbM277) rfl rfl trivial ?_
    refine e3_fgt [false, false] ?_
    exact sM_truth_11 L xs Q _ _ _ _ h
  · replace h := h.2 hc
    refine e3_K [0, 0] 11 [(2, 40), (0, l1)] [(0, 1), (0, 1), (2, 40)] (H) (G) (wZ L xs) (M := tbM277) rfl rfl trivial ?_
    refine e3_fgt [false, false] ?_
    exact sM_truth_11 L xs Q _ _ _ _ h
/-- LetterPostModel.letters(J)I -/
def wM_letters_92 (Q : Int → e3_H → e3_G → Prop) (s0 : Int) (H : e3_H) (G : e3_G) : Prop :=
  Q s0 H G
def wM_letters_68 (Q : Int → e3_H → e3_G → Prop) (k9 : Int → Int → Int → Int → e3_H → e3_G → Prop) (l1 : Int) (l4 : Int) (l5 : Int) (s0 : Int) (s1 : Int) (H : e3_H) (G : e3_G) : Prop :=
  (k9 l1 (e3_w32 (s1 + s0)) l4 (e3_w32 (l5 + (-1))) H G)
def wM_letters_55 (Q : Int → e3_H → e3_G → Prop) (k9 : Int → Int → Int → Int → e3_H → e3_G → Prop) (l1 : Int) (l3 : Int) (l5 : Int) (l6 : Int) (s0 : Int) (H : e3_H) (G : e3_G) : Prop :=
  (((l6 : Int) = 0 → (wM_letters_68 Q k9 l1 s0 l5 0 l3 H G)) ∧ (¬ ((l6 : Int) = 0) → (wM_letters_68 Q k9 l1 s0 l5 1 l3 H G)))
def wM_letters_54 (Q : Int → e3_H → e3_G → Prop) (k9 : Int → Int → Int → Int → e3_H → e3_G → Prop) (l1 : Int) (l3 : Int) (l5 : Int) (l6 : Int) (H : e3_H) (G : e3_G) : Prop :=
  (wM_letters_55 Q k9 l1 l3 l5 l6 0 H G)
def wM_letters_50 (Q : Int → e3_H → e3_G → Prop) (k9 : Int → Int → Int → Int → e3_H → e3_G → Prop) (l1 : Int) (l3 : Int) (l5 : Int) (l6 : Int) (H : e3_H) (G : e3_G) : Prop :=
  (wM_letters_55 Q k9 l1 l3 l5 l6 1 H G)
def wM_letters_9 (Q : Int → e3_H → e3_G → Prop) : Nat → Int → Int → Int → Int → e3_H → e3_G → Prop
  | 0, _, _, _, _, _, _ => False
  | nn + 1, l1, l3, l4, l5, H, G => (((l5 : Int) < 0 → (((l4 : Int) = 0 → (wM_letters_92 Q (-1) H G)) ∧ (¬ ((l4 : Int) = 0) → (wM_newValue (fun x3 H1 G2 => (wM_letters_92 Q x3 H1 G2)) 2 l3 l1 H G)))) ∧ (¬ ((l5 : Int) < 0) → (((l4 : Int) = 0 → (wM_letters_54 Q (fun l1 l3 l4 l5 H G => wM_letters_9 Q nn l1 l3 l4 l5 H G) l1 l3 l5 (e3_w32 (e3_land (e3_lshr l1 (e3_w32 (8 * l5))) 255)) H G)) ∧ (¬ ((l4 : Int) = 0) → (wM_isSmall (fun x6 H4 G5 => (((x6 : Int) = 0 → ((((e3_w32 (e3_land (e3_lshr l1 (e3_w32 (8 * l5))) 255)) : Int) = 0 → (((l3 : Int) = 0 → (wM_letters_50 Q (fun l1 l3 l4 l5 H G => wM_letters_9 Q nn l1 l3 l4 l5 H G) l1 l3 l5 (e3_w32 (e3_land (e3_lshr l1 (e3_w32 (8 * l5))) 255)) H4 G5)) ∧ (¬ ((l3 : Int) = 0) → (wM_letters_54 Q (fun l1 l3 l4 l5 H G => wM_letters_9 Q nn l1 l3 l4 l5 H G) l1 l3 l5 (e3_w32 (e3_land (e3_lshr l1 (e3_w32 (8 * l5))) 255)) H4 G5)))) ∧ (¬ (((e3_w32 (e3_land (e3_lshr l1 (e3_w32 (8 * l5))) 255)) : Int) = 0) → (wM_letters_54 Q (fun l1 l3 l4 l5 H G => wM_letters_9 Q nn l1 l3 l4 l5 H G) l1 l3 l5 (e3_w32 (e3_land (e3_lshr l1 (e3_w32 (8 * l5))) 255)) H4 G5)))) ∧ (¬ ((x6 : Int) = 0) → (wM_letters_50 Q (fun l1 l3 l4 l5 H G => wM_letters_9 Q nn l1 l3 l4 l5 H G) l1 l3 l5 (e3_w32 (e3_land (e3_lshr l1 (e3_w32 (8 * l5))) 255)) H4 G5)))) (e3_w32 (e3_land (e3_lshr l1 (e3_w32 (8 * l5))) 255)) H G)))))
def wM_letters (Q : Int → e3_H → e3_G → Prop) (l1 : Int) (H : e3_H) (G : e3_G) : Prop :=
  (∃ n, wM_letters_9 Q n l1 0 1 7 H G)
set_option maxRecDepth 100000 in
set_option maxHeartbeats 4000000 in
theorem sM_letters_92 (L : Nat) (xs : Nat → Int32) (Q : Int → e3_H → e3_G → Prop) (s0 : Int) (H : e3_H) (G : e3_G) (h : wM_letters_92 Q s0 H G) : e3_Ev (wB L xs) 2 45 278 92 [(3, 0), (3, 0), (3, 0), (3, 0), (3, 0), (3, 0), (3, 0)] [(0, s0)] H G (e3_q0 Q) := by
  unfold wM_letters_92 at h
  exact e3_reti (M := tbM278) rfl rfl rfl ⟨_, rfl, h⟩
set_option maxRecDepth 100000 in
set_option maxHeartbeats 4000000 in
theorem sM_letters_68 (L : Nat) (xs : Nat → Int32) (Q : Int → e3_H → e3_G → Prop) (k9 : Int → Int → Int → Int → e3_H → e3_G → Prop) (hk9 : ∀ (l1 : Int) (l3 : Int) (l4 : Int) (l5 : Int) (H : e3_H) (G : e3_G), k9 l1 l3 l4 l5 H G → e3_Ev (wB L xs) 2 45 278 9 [(2, 40), (1, l1), (3, 0), (0, l3), (0, l4), (0, l5), (3, 0)] [] H G (e3_q0 Q)) (l1 : Int) (l4 : Int) (l5 : Int) (s0 : Int) (s1 : Int) (H : e3_H) (G : e3_G) (h : wM_letters_68 Q k9 l1 l4 l5 s0 s1 H G) : e3_Ev (wB L xs) 2 45 278 68 [(2, 40), (1, l1), (3, 0), (3, 0), (0, l4), (0, l5), (3, 0)] [(0, s0), (0, s1)] H G (e3_q0 Q) := by
  unfold wM_letters_68 at h
  refine e3_K [0, 0, 0, 0] 9 [(2, 40), (1, l1), (3, 0), (0, (e3_w32 (s1 + s0))), (0, l4), (0, (e3_w32 (l5 + (-1)))), (3, 0)] [] (H) (G) (wZ L xs) (M := tbM278) rfl rfl trivial ?_
  exact hk9 _ _ _ _ _ _ h
set_option maxRecDepth 100000 in
set_option maxHeartbeats 4000000 in
theorem sM_letters_55 (L : Nat) (xs : Nat → Int32) (Q : Int → e3_H → e3_G → Prop) (k9 : Int → Int → Int → Int → e3_H → e3_G → Prop) (hk9 : ∀ (l1 : Int) (l3 : Int) (l4 : Int) (l5 : Int) (H : e3_H) (G : e3_G), k9 l1 l3 l4 l5 H G → e3_Ev (wB L xs) 2 45 278 9 [(2, 40), (1, l1), (3, 0), (0, l3), (0, l4), (0, l5), (3, 0)] [] H G (e3_q0 Q)) (l1 : Int) (l3 : Int) (l5 : Int) (l6 : Int) (s0 : Int) (H : e3_H) (G : e3_G) (h : wM_letters_55 Q k9 l1 l3 l5 l6 s0 H G) : e3_Ev (wB L xs) 2 45 278 55 [(2, 40), (1, l1), (3, 0), (0, l3), (3, 0), (0, l5), (0, l6)] [(0, s0)] H G (e3_q0 Q) := by
  unfold wM_letters_55 at h
  refine e3_K [0, 0, 0] 60 [(2, 40), (1, l1), (3, 0), (0, l3), (0, s0), (0, l5), (0, l6)] [(0, l6), (0, l3)] (H) (G) (wZ L xs) (M := tbM278) rfl rfl trivial ?_
  refine e3_br (M := tbM278) rfl rfl rfl Iff.rfl (fun hc => ?_) (fun hc => ?_)
  · replace h := h.1 hc
    refine e3_K [0] 68 [(2, 40), (1, l1), (3, 0), (0, l3), (0, s0), (0, l5), (0, l6)] [(0, 0), (0, l3)] (H) (G) (wZ L xs) (M := tbM278) rfl rfl trivial ?_
    refine e3_fgt [true, true, false, false, true, true, false] ?_
    exact sM_letters_68 L xs Q k9 hk9 _ _ _ _ _ _ _ h
  · replace h := h.2 hc
    refine e3_K [0, 0] 68 [(2, 40), (1, l1), (3, 0), (0, l3), (0, s0), (0, l5), (0, l6)] [(0, 1), (0, l3)] (H) (G) (wZ L xs) (M := tbM278) rfl rfl trivial ?_
    refine e3_fgt [true, true, false, false, true, true, false] ?_
    exact sM_letters_68 L xs Q k9 hk9 _ _ _ _ _ _ _ h
set_option maxRecDepth 100000 in
set_option maxHeartbeats 4000000 in
theorem sM_letters_54 (L : Nat) (xs : Nat → Int32) (Q : Int → e3_H → e3_G → Prop) (k9 : Int → Int → Int → Int → e3_H → e3_G → Prop) (hk9 : ∀ (l1 : Int) (l3 : Int) (l4 : Int) (l5 : Int) (H : e3_H) (G : e3_G), k9 l1 l3 l4 l5 H G → e3_Ev (wB L xs) 2 45 278 9 [(2, 40), (1, l1), (3, 0), (0, l3), (0, l4), (0, l5), (3, 0)] [] H G (e3_q0 Q)) (l1 : Int) (l3 : Int) (l5 : Int) (l6 : Int) (H : e3_H) (G : e3_G) (h : wM_letters_54 Q k9 l1 l3 l5 l6 H G) : e3_Ev (wB L xs) 2 45 278 54 [(2, 40), (1, l1), (3, 0), (0, l3), (3, 0), (0, l5), (0, l6)] [] H G (e3_q0 Q) := by
  unfold wM_letters_54 at h
  refine e3_K [0] 55 [(2, 40), (1, l1), (3, 0), (0, l3), (3, 0), (0, l5), (0, l6)] [(0, 0)] (H) (G) (wZ L xs) (M := tbM278) rfl rfl trivial ?_
  exact sM_letters_55 L xs Q k9 hk9 _ _ _ _ _ _ _ h
set_option maxRecDepth 100000 in
set_option maxHeartbeats 4000000 in
theorem sM_letters_50 (L : Nat) (xs : Nat → Int32) (Q : Int → e3_H → e3_G → Prop) (k9 : Int → Int → Int → Int → e3_H → e3_G → Prop) (hk9 : ∀ (l1 : Int) (l3 : Int) (l4 : Int) (l5 : Int) (H : e3_H) (G : e3_G), k9 l1 l3 l4 l5 H G → e3_Ev (wB L xs) 2 45 278 9 [(2, 40), (1, l1), (3, 0), (0, l3), (0, l4), (0, l5), (3, 0)] [] H G (e3_q0 Q)) (l1 : Int) (l3 : Int) (l5 : Int) (l6 : Int) (H : e3_H) (G : e3_G) (h : wM_letters_50 Q k9 l1 l3 l5 l6 H G) : e3_Ev (wB L xs) 2 45 278 50 [(2, 40), (1, l1), (3, 0), (0, l3), (3, 0), (0, l5), (0, l6)] [] H G (e3_q0 Q) := by
  unfold wM_letters_50 at h
  refine e3_K [0, 0] 55 [(2, 40), (1, l1), (3, 0), (0, l3), (3, 0), (0, l5), (0, l6)] [(0, 1)] (H) (G) (wZ L xs) (M := tbM278) rfl rfl trivial ?_
  exact sM_letters_55 L xs Q k9 hk9 _ _ _ _ _ _ _ h
set_option maxRecDepth 100000 in
set_option maxHeartbeats 4000000 in
theorem sM_letters_9 (L : Nat) (xs : Nat → Int32) (Q : Int → e3_H → e3_G → Prop) : ∀ (nl : Nat) (l1 : Int) (l3 : Int) (l4 : Int) (l5 : Int) (H : e3_H) (G : e3_G), wM_letters_9 Q nl l1 l3 l4 l5 H G → e3_Ev (wB L xs) 2 45 278 9 [(2, 40), (1, l1), (3, 0), (0, l3), (0, l4), (0, l5), (3, 0)] [] H G (e3_q0 Q) := by
  intro nl
  induction nl with
  | zero => intro l1 l3 l4 l5 H G h; exact h.elim
  | succ nn ih =>
    intro l1 l3 l4 l5 H G h
    have h : (((l5 : Int) < 0 → (((l4 : Int) = 0 → (wM_letters_92 Q (-1) H G)) ∧ (¬ ((l4 : Int) = 0) → (wM_newValue (fun x3 H1 G2 => (wM_letters_92 Q x3 H1 G2)) 2 l3 l1 H G)))) ∧ (¬ ((l5 : Int) < 0) → (((l4 : Int) = 0 → (wM_letters_54 Q (fun l1 l3 l4 l5 H G => wM_letters_9 Q nn l1 l3 l4 l5 H G) l1 l3 l5 (e3_w32 (e3_land (e3_lshr l1 (e3_w32 (8 * l5))) 255)) H G)) ∧ (¬ ((l4 : Int) = 0) → (wM_isSmall (fun x6 H4 G5 => (((x6 : Int) = 0 → ((((e3_w32 (e3_land (e3_lshr l1 (e3_w32 (8 * l5))) 255)) : Int) = 0 → (((l3 : Int) = 0 → (wM_letters_50 Q (fun l1 l3 l4 l5 H G => wM_letters_9 Q nn l1 l3 l4 l5 H G) l1 l3 l5 (e3_w32 (e3_land (e3_lshr l1 (e3_w32 (8 * l5))) 255)) H4 G5)) ∧ (¬ ((l3 : Int) = 0) → (wM_letters_54 Q (fun l1 l3 l4 l5 H G => wM_letters_9 Q nn l1 l3 l4 l5 H G) l1 l3 l5 (e3_w32 (e3_land (e3_lshr l1 (e3_w32 (8 * l5))) 255)) H4 G5)))) ∧ (¬ (((e3_w32 (e3_land (e3_lshr l1 (e3_w32 (8 * l5))) 255)) : Int) = 0) → (wM_letters_54 Q (fun l1 l3 l4 l5 H G => wM_letters_9 Q nn l1 l3 l4 l5 H G) l1 l3 l5 (e3_w32 (e3_land (e3_lshr l1 (e3_w32 (8 * l5))) 255)) H4 G5)))) ∧ (¬ ((x6 : Int) = 0) → (wM_letters_50 Q (fun l1 l3 l4 l5 H G => wM_letters_9 Q nn l1 l3 l4 l5 H G) l1 l3 l5 (e3_w32 (e3_land (e3_lshr l1 (e3_w32 (8 * l5))) 255)) H4 G5)))) (e3_w32 (e3_land (e3_lshr l1 (e3_w32 (8 * l5))) 255)) H G))))) := h
    refine e3_K [0] 11 [(2, 40), (1, l1), (3, 0), (0, l3), (0, l4), (0, l5), (3, 0)] [(0, l5)] (H) (G) (wZ L xs) (M := tbM278) rfl rfl trivial ?_
    refine e3_br (M := tbM278) rfl rfl rfl Iff.rfl (fun hc => ?_) (fun hc => ?_)
    · replace h := h.1 hc
      refine e3_K [0] 78 [(2, 40), (1, l1), (3, 0), (0, l3), (0, l4), (0, l5), (3, 0)] [(0, l4)] (H) (G) (wZ L xs) (M := tbM278) rfl rfl trivial ?_
      refine e3_br (M := tbM278) rfl rfl rfl Iff.rfl (fun hc => ?_) (fun hc => ?_)
      · replace h := h.1 hc
        refine e3_K [0] 92 [(2, 40), (1, l1), (3, 0), (0, l3), (0, l4), (0, l5), (3, 0)] [(0, (-1))] (H) (G) (wZ L xs) (M := tbM278) rfl rfl trivial ?_
        refine e3_fgt [false, false, false, false, false, false, false] ?_
        exact sM_letters_92 L xs Q _ _ _ h
      · replace h := h.2 hc
        refine e3_K [0, 0, 0, 0] 85 [(2, 40), (1, l1), (3, 0), (0, l3), (0, l4), (0, l5), (3, 0)] [(1, l1), (0, l3), (0, 2), (2, 40)] (H) (G) (wZ L xs) (M := tbM278) rfl rfl trivial ?_
        refine e3_call (o := 0) (k := 276) (M2 := tbM276) (f1 := 0) (w1 := 0) (as := [(2, 40), (0, 2), (0, l3), (1, l1)]) (rest := []) (M := tbM278) rfl rfl rfl trivial (Nat.le_of_ble_eq_true rfl) (Nat.le_of_ble_eq_true rfl) (Nat.le_of_ble_eq_true rfl) ?_
        refine e3_mono (sM_newValue L xs _ _ _ _ _ _ h) (fun r H1 G2 h => ?_)
        obtain ⟨x3, rfl, h⟩ := h
        change e3_Ev _ _ _ _ 88 [(2, 40), (1, l1), (3, 0), (0, l3), (0, l4), (0, l5), (3, 0)] [(0, x3)] H1 G2 _
        refine e3_K [0] 92 [(2, 40), (1, l1), (3, 0), (0, l3), (0, l4), (0, l5), (3, 0)] [(0, x3)] (H1) (G2) (wZ L xs) (M := tbM278) rfl rfl trivial ?_
        refine e3_fgt [false, false, false, false, false, false, false] ?_
        exact sM_letters_92 L xs Q _ _ _ h
    · replace h := h.2 hc
      refine e3_K [0, 0, 0, 0, 0, 2, 0, 0, 0, 0] 30 [(2, 40), (1, l1), (3, 0), (0, l3), (0, l4), (0, l5), (0, (e3_w32 (e3_land (e3_lshr l1 (e3_w32 (8 * l5))) 255)))] [(0, l4)] (H) (G) (wZ L xs) (M := tbM278) rfl rfl ⟨trivial, trivial⟩ ?_
      refine e3_br (M := tbM278) rfl rfl rfl Iff.rfl (fun hc => ?_) (fun hc => ?_)
      · replace h := h.1 hc
        refine e3_fgt [true, true, false, true, false, true, true] ?_
        exact sM_letters_54 L xs Q (fun l1 l3 l4 l5 H G => wM_letters_9 Q nn l1 l3 l4 l5 H G) ih _ _ _ _ _ _ h
      · replace h := h.2 hc
        refine e3_K [0] 35 [(2, 40), (1, l1), (3, 0), (0, l3), (0, l4), (0, l5), (0, (e3_w32 (e3_land (e3_lshr l1 (e3_w32 (8 * l5))) 255)))] [(0, (e3_w32 (e3_land (e3_lshr l1 (e3_w32 (8 * l5))) 255)))] (H) (G) (wZ L xs) (M := tbM278) rfl rfl trivial ?_
        refine e3_call (o := 0) (k := 203) (M2 := tbM203) (f1 := 1) (w1 := 25) (as := [(0, (e3_w32 (e3_land (e3_lshr l1 (e3_w32 (8 * l5))) 255)))]) (rest := []) (M := tbM278) rfl rfl rfl trivial (Nat.le_of_ble_eq_true rfl) (Nat.le_of_ble_eq_true rfl) (Nat.le_of_ble_eq_true rfl) ?_
        refine e3_mono (sM_isSmall L xs _ _ _ _ h) (fun r H4 G5 h => ?_)
        obtain ⟨x6, rfl, h⟩ := h
        change e3_Ev _ _ _ _ 38 [(2, 40), (1, l1), (3, 0), (0, l3), (0, l4), (0, l5), (0, (e3_w32 (e3_land (e3_lshr l1 (e3_w32 (8 * l5))) 255)))] [(0, x6)] H4 G5 _
        refine e3_br (M := tbM278) rfl rfl rfl Iff.rfl (fun hc => ?_) (fun hc => ?_)
        · replace h := h.1 hc
          refine e3_K [0] 43 [(2, 40), (1, l1), (3, 0), (0, l3), (0, l4), (0, l5), (0, (e3_w32 (e3_land (e3_lshr l1 (e3_w32 (8 * l5))) 255)))] [(0, (e3_w32 (e3_land (e3_lshr l1 (e3_w32 (8 * l5))) 255)))] (H4) (G5) (wZ L xs) (M := tbM278) rfl rfl trivial ?_
          refine e3_br (M := tbM278) rfl rfl rfl Iff.rfl (fun hc => ?_) (fun hc => ?_)
          · replace h := h.1 hc
            refine e3_K [0] 47 [(2, 40), (1, l1), (3, 0), (0, l3), (0, l4), (0, l5), (0, (e3_w32 (e3_land (e3_lshr l1 (e3_w32 (8 * l5))) 255)))] [(0, l3)] (H4) (G5) (wZ L xs) (M := tbM278) rfl rfl trivial ?_
            refine e3_br (M := tbM278) rfl rfl rfl Iff.rfl (fun hc => ?_) (fun hc => ?_)
            · replace h := h.1 hc
              refine e3_fgt [true, true, false, true, false, true, true] ?_
              exact sM_letters_50 L xs Q (fun l1 l3 l4 l5 H G => wM_letters_9 Q nn l1 l3 l4 l5 H G) ih _ _ _ _ _ _ h
            · replace h := h.2 hc
              refine e3_fgt [true, true, false, true, false, true, true] ?_
              exact sM_letters_54 L xs Q (fun l1 l3 l4 l5 H G => wM_letters_9 Q nn l1 l3 l4 l5 H G) ih _ _ _ _ _ _ h
          · replace h := h.2 hc
            refine e3_fgt [true, true, false, true, false, true, true] ?_
            exact sM_letters_54 L xs Q (fun l1 l3 l4 l5 H G => wM_letters_9 Q nn l1 l3 l4 l5 H G) ih _ _ _ _ _ _ h
        · replace h := h.2 hc
          refine e3_fgt [true, true, false, true, false, true, true] ?_
          exact sM_letters_50 L xs Q (fun l1 l3 l4 l5 H G => wM_letters_9 Q nn l1 l3 l4 l5 H G) ih _ _ _ _ _ _ h
set_option maxRecDepth 100000 in
set_option maxHeartbeats 4000000 in
theorem sM_letters (L : Nat) (xs : Nat → Int32) (Q : Int → e3_H → e3_G → Prop) (l1 : Int) (H : e3_H) (G : e3_G) (h : wM_letters Q l1 H G) : e3_Ev (wB L xs) 2 45 278 0 [(2, 40), (1, l1), (3, 0), (3, 0), (3, 0), (3, 0), (3, 0)] [] H G (e3_q0 Q) := by
  unfold wM_letters at h
  refine e3_K [0, 0, 0, 0, 0, 0] 9 [(2, 40), (1, l1), (3, 0), (0, 0), (0, 1), (0, 7), (3, 0)] [] (H) (G) (wZ L xs) (M := tbM278) rfl rfl trivial ?_
  obtain ⟨nl, h⟩ := h
  exact sM_letters_9 L xs Q nl _ _ _ _ _ _ h
/-- LetterPostModel.nothing()I -/
def wM_nothing (Q : Int → e3_H → e3_G → Prop)  (H : e3_H) (G : e3_G) : Prop :=
  (wM_newValue (fun x3 H1 G2 => Q x3 H1 G2) 3 (-4) 0 H G)
set_option maxRecDepth 100000 in
set_option maxHeartbeats 4000000 in
theorem sM_nothing (L : Nat) (xs : Nat → Int32) (Q : Int → e3_H → e3_G → Prop)  (H : e3_H) (G : e3_G) (h : wM_nothing Q  H G) : e3_Ev (wB L xs) 1 24 279 0 [(2, 40)] [] H G (e3_q0 Q) := by
  unfold wM_nothing at h
  refine e3_K [0, 0, 0, 0] 5 [(2, 40)] [(1, 0), (0, (-4)), (0, 3), (2, 40)] (H) (G) (wZ L xs) (M := tbM279) rfl rfl trivial ?_
  refine e3_call (o := 0) (k := 276) (M2 := tbM276) (f1 := 0) (w1 := 0) (as := [(2, 40), (0, 3), (0, (-4)), (1, 0)]) (rest := []) (M := tbM279) rfl rfl rfl trivial (Nat.le_of_ble_eq_true rfl) (Nat.le_of_ble_eq_true rfl) (Nat.le_of_ble_eq_true rfl) ?_
  refine e3_mono (sM_newValue L xs _ _ _ _ _ _ h) (fun r H1 G2 h => ?_)
  obtain ⟨x3, rfl, h⟩ := h
  change e3_Ev _ _ _ _ 8 [(2, 40)] [(0, x3)] H1 G2 _
  exact e3_reti (M := tbM279) rfl rfl rfl ⟨_, rfl, h⟩
/-- LetterPostModel.isValue(I)Z -/
def wM_isValue (Q : Int → e3_H → e3_G → Prop) (l1 : Int) (H : e3_H) (G : e3_G) : Prop :=
  (wM_in (fun x3 H1 G2 => ((x3 : Int) = 0 ∨ x3 = 1) ∧ Q x3 H1 G2) l1 0 (e3_w32 ((H 40 109) - 1)) H G)
set_option maxRecDepth 100000 in
set_option maxHeartbeats 4000000 in
theorem sM_isValue (L : Nat) (xs : Nat → Int32) (Q : Int → e3_H → e3_G → Prop) (l1 : Int) (H : e3_H) (G : e3_G) (h : wM_isValue Q l1 H G) : e3_Ev (wB L xs) 1 25 281 0 [(2, 40), (0, l1)] [] H G (e3_q0 Q) := by
  unfold wM_isValue at h
  refine e3_K [0, 0, 0, 0, 2, 0, 0, 0] 10 [(2, 40), (0, l1)] [(1, (e3_w32 ((H 40 109) - 1))), (1, 0), (1, l1)] (H) (G) (wZ L xs) (M := tbM281) rfl rfl ⟨trivial, trivial⟩ ?_
  refine e3_call (o := 0) (k := 198) (M2 := tbM198) (f1 := 0) (w1 := 0) (as := [(1, l1), (1, 0), (1, (e3_w32 ((H 40 109) - 1)))]) (rest := []) (M := tbM281) rfl rfl rfl trivial (Nat.le_of_ble_eq_true rfl) (Nat.le_of_ble_eq_true rfl) (Nat.le_of_ble_eq_true rfl) ?_
  refine e3_mono (sM_in L xs _ _ _ _ _ _ h) (fun r H1 G2 h => ?_)
  obtain ⟨x3, rfl, h⟩ := h
  change e3_Ev _ _ _ _ 13 [(2, 40), (0, l1)] [(0, x3)] H1 G2 _
  exact e3_retb (M := tbM281) rfl rfl rfl h.1 ⟨_, rfl, h.2⟩
/-- LetterPostModel.isOfSort(II)Z -/
def wM_isOfSort_62 (Q : Int → e3_H → e3_G → Prop) (s0 : Int) (H : e3_H) (G : e3_G) : Prop :=
  ((s0 : Int) = 0 ∨ s0 = 1) ∧ Q s0 H G
def wM_isOfSort_57 (Q : Int → e3_H → e3_G → Prop)  (H : e3_H) (G : e3_G) : Prop :=
  (wM_isOfSort_62 Q 1 H G)
def wM_isOfSort_61 (Q : Int → e3_H → e3_G → Prop)  (H : e3_H) (G : e3_G) : Prop :=
  (wM_isOfSort_62 Q 0 H G)
def wM_isOfSort_20 (Q : Int → e3_H → e3_G → Prop) (s0 : Int) (H : e3_H) (G : e3_G) : Prop :=
  ((s0 : Int) = 0 ∨ s0 = 1) ∧ Q s0 H G
def wM_isOfSort (Q : Int → e3_H → e3_G → Prop) (l1 : Int) (l2 : Int) (H : e3_H) (G : e3_G) : Prop :=
  (((l2 : Int) < 3 → ((0 : Int) ≤ l1 ∧ (l1 : Int) < 160) ∧ ((((H 128 l1) : Int) = l2 → (wM_isOfSort_20 Q 1 H G)) ∧ (¬ (((H 128 l1) : Int) = l2) → (wM_isOfSort_20 Q 0 H G)))) ∧ (¬ ((l2 : Int) < 3) → ((0 : Int) ≤ l1 ∧ (l1 : Int) < 160) ∧ ((((H 128 l1) : Int) = 3 → (wM_isOfSort_57 Q H G)) ∧ (¬ (((H 128 l1) : Int) = 3) → ((0 : Int) ≤ l1 ∧ (l1 : Int) < 160) ∧ ((((H 128 l1) : Int) = 4 → ((0 : Int) ≤ l1 ∧ (l1 : Int) < 160) ∧ (wM_isOf (fun x7 H5 G6 => (((x7 : Int) = 0 → (wM_isOfSort_61 Q H5 G6)) ∧ (¬ ((x7 : Int) = 0) → (wM_isOfSort_57 Q H5 G6)))) (H 129 l1) (e3_w32 (l2 - 3)) H G)) ∧ (¬ (((H 128 l1) : Int) = 4) → (wM_isOfSort_61 Q H G)))))))
set_option maxRecDepth 100000 in
set_option maxHeartbeats 4000000 in
theorem sM_isOfSort_62 (L : Nat) (xs : Nat → Int32) (Q : Int → e3_H → e3_G → Prop) (s0 : Int) (H : e3_H) (G : e3_G) (h : wM_isOfSort_62 Q s0 H G) : e3_Ev (wB L xs) 1 23 282 62 [(3, 0), (3, 0), (3, 0)] [(0, s0)] H G (e3_q0 Q) := by
  unfold wM_isOfSort_62 at h
  exact e3_retb (M := tbM282) rfl rfl rfl h.1 ⟨_, rfl, h.2⟩
set_option maxRecDepth 100000 in
set_option maxHeartbeats 4000000 in
theorem sM_isOfSort_57 (L : Nat) (xs : Nat → Int32) (Q : Int → e3_H → e3_G → Prop)  (H : e3_H) (G : e3_G) (h : wM_isOfSort_57 Q  H G) : e3_Ev (wB L xs) 1 23 282 57 [(3, 0), (3, 0), (3, 0)] [] H G (e3_q0 Q) := by
  unfold wM_isOfSort_57 at h
  refine e3_K [0, 0] 62 [(3, 0), (3, 0), (3, 0)] [(0, 1)] (H) (G) (wZ L xs) (M := tbM282) rfl rfl trivial ?_
  exact sM_isOfSort_62 L xs Q _ _ _ h
set_option maxRecDepth 100000 in
set_option maxHeartbeats 4000000 in
theorem sM_isOfSort_61 (L : Nat) (xs : Nat → Int32) (Q : Int → e3_H → e3_G → Prop)  (H : e3_H) (G : e3_G) (h : wM_isOfSort_61 Q  H G) : e3_Ev (wB L xs) 1 23 282 61 [(3, 0), (3, 0), (3, 0)] [] H G (e3_q0 Q) := by
  unfold wM_isOfSort_61 at h
  refine e3_K [0] 62 [(3, 0), (3, 0), (3, 0)] [(0, 0)] (H) (G) (wZ L xs) (M := tbM282) rfl rfl trivial ?_
  exact sM_isOfSort_62 L xs Q _ _ _ h
set_option maxRecDepth 100000 in
set_option maxHeartbeats 4000000 in
theorem sM_isOfSort_20 (L : Nat) (xs : Nat → Int32) (Q : Int → e3_H → e3_G → Prop) (s0 : Int) (H : e3_H) (G : e3_G) (h : wM_isOfSort_20 Q s0 H G) : e3_Ev (wB L xs) 1 23 282 20 [(3, 0), (3, 0), (3, 0)] [(0, s0)] H G (e3_q0 Q) := by
  unfold wM_isOfSort_20 at h
  exact e3_retb (M := tbM282) rfl rfl rfl h.1 ⟨_, rfl, h.2⟩
set_option maxRecDepth 100000 in
set_option maxHeartbeats 4000000 in
theorem sM_isOfSort (L : Nat) (xs : Nat → Int32) (Q : Int → e3_H → e3_G → Prop) (l1 : Int) (l2 : Int) (H : e3_H) (G : e3_G) (h : wM_isOfSort Q l1 l2 H G) : e3_Ev (wB L xs) 1 23 282 0 [(2, 40), (0, l1), (0, l2)] [] H G (e3_q0 Q) := by
  unfold wM_isOfSort at h
  refine e3_K [0, 0] 2 [(2, 40), (0, l1), (0, l2)] [(0, 3), (0, l2)] (H) (G) (wZ L xs) (M := tbM282) rfl rfl trivial ?_
  refine e3_br (M := tbM282) rfl rfl rfl Iff.rfl (fun hc => ?_) (fun hc => ?_)
  · replace h := h.1 hc
    obtain ⟨o1, h⟩ := h
    refine e3_K [0, 4, 0, 2, 0] 12 [(2, 40), (0, l1), (0, l2)] [(0, l2), (0, (H 128 l1))] (H) (G) (wZ L xs) (M := tbM282) rfl rfl ⟨trivial, o1, trivial⟩ ?_
    refine e3_br (M := tbM282) rfl rfl rfl Iff.rfl (fun hc => ?_) (fun hc => ?_)
    · replace h := h.1 hc
      refine e3_K [0, 0] 20 [(2, 40), (0, l1), (0, l2)] [(0, 1)] (H) (G) (wZ L xs) (M := tbM282) rfl rfl trivial ?_
      refine e3_fgt [false, false, false] ?_
      exact sM_isOfSort_20 L xs Q _ _ _ h
    · replace h := h.2 hc
      refine e3_K [0] 20 [(2, 40), (0, l1), (0, l2)] [(0, 0)] (H) (G) (wZ L xs) (M := tbM282) rfl rfl trivial ?_
      refine e3_fgt [false, false, false] ?_
      exact sM_isOfSort_20 L xs Q _ _ _ h
  · replace h := h.2 hc
    obtain ⟨o2, h⟩ := h
    refine e3_K [0, 4, 0, 2, 0] 28 [(2, 40), (0, l1), (0, l2)] [(0, 3), (0, (H 128 l1))] (H) (G) (wZ L xs) (M := tbM282) rfl rfl ⟨trivial, o2, trivial⟩ ?_
    refine e3_br (M := tbM282) rfl rfl rfl Iff.rfl (fun hc => ?_) (fun hc => ?_)
    · replace h := h.1 hc
      refine e3_fgt [false, false, false] ?_
      exact sM_isOfSort_57 L xs Q _ _ h
    · replace h := h.2 hc
      obtain ⟨o3, h⟩ := h
      refine e3_K [0, 4, 0, 2, 0] 38 [(2, 40), (0, l1), (0, l2)] [(0, 4), (0, (H 128 l1))] (H) (G) (wZ L xs) (M := tbM282) rfl rfl ⟨trivial, o3, trivial⟩ ?_
      refine e3_br (M := tbM282) rfl rfl rfl Iff.rfl (fun hc => ?_) (fun hc => ?_)
      · replace h := h.1 hc
        obtain ⟨o4, h⟩ := h
        refine e3_K [0, 0, 4, 0, 2, 0, 0, 0] 51 [(2, 40), (0, l1), (0, l2)] [(0, (e3_w32 (l2 - 3))), (0, (H 129 l1)), (2, 40)] (H) (G) (wZ L xs) (M := tbM282) rfl rfl ⟨trivial, o4, trivial⟩ ?_
        refine e3_call (o := 0) (k := 223) (M2 := tbM223) (f1 := 0) (w1 := 0) (as := [(2, 40), (0, (H 129 l1)), (0, (e3_w32 (l2 - 3)))]) (rest := []) (M := tbM282) rfl rfl rfl trivial (Nat.le_of_ble_eq_true rfl) (Nat.le_of_ble_eq_true rfl) (Nat.le_of_ble_eq_true rfl) ?_
        refine e3_mono (sM_isOf L xs _ _ _ _ _ h) (fun r H5 G6 h => ?_)
        obtain ⟨x7, rfl, h⟩ := h
        change e3_Ev _ _ _ _ 54 [(2, 40), (0, l1), (0, l2)] [(0, x7)] H5 G6 _
        refine e3_br (M := tbM282) rfl rfl rfl Iff.rfl (fun hc => ?_) (fun hc => ?_)
        · replace h := h.1 hc
          refine e3_fgt [false, false, false] ?_
          exact sM_isOfSort_61 L xs Q _ _ h
        · replace h := h.2 hc
          refine e3_fgt [false, false, false] ?_
          exact sM_isOfSort_57 L xs Q _ _ h
      · replace h := h.2 hc
        refine e3_fgt [false, false, false] ?_
        exact sM_isOfSort_61 L xs Q _ _ h
/-- LetterPostModel.make(IIIII)I -/
def wM_make_16 (Q : Int → e3_H → e3_G → Prop)  (H : e3_H) (G : e3_G) : Prop :=
  Q (-1) H G
def wM_make_135 (Q : Int → e3_H → e3_G → Prop)  (H : e3_H) (G : e3_G) : Prop :=
  Q (-3) H G
def wM_make_213 (Q : Int → e3_H → e3_G → Prop) (k159 : Int → Int → Int → Int → Int → Int → Int → e3_H → e3_G → Prop) (l1 : Int) (l2 : Int) (l3 : Int) (l4 : Int) (l5 : Int) (l7 : Int) (l8 : Int) (s0 : Int) (s1 : Int) (H : e3_H) (G : e3_G) : Prop :=
  ((0 : Int) ≤ s1 ∧ (s1 : Int) < 640) ∧ ∀ H1 : e3_H, H1 = e3_up H 132 s1 s0 → (k159 l1 l2 l3 l4 l5 l7 (e3_w32 (l8 + 1)) H1 G)
def wM_make_159 (Q : Int → e3_H → e3_G → Prop) : Nat → Int → Int → Int → Int → Int → Int → Int → e3_H → e3_G → Prop
  | 0, _, _, _, _, _, _, _, _, _ => False
  | nn + 1, l1, l2, l3, l4, l5, l7, l8, H, G => ((0 : Int) ≤ l1 ∧ (l1 : Int) < 24) ∧ (((l8 : Int) < (H 44 l1) → (((l8 : Int) = 0 → (wM_make_213 Q (fun l1 l2 l3 l4 l5 l7 l8 H G => wM_make_159 Q nn l1 l2 l3 l4 l5 l7 l8 H G) l1 l2 l3 l4 l5 l7 l8 l2 (e3_w32 ((e3_w32 (4 * l7)) + l8)) H G)) ∧ (¬ ((l8 : Int) = 0) → (((l8 : Int) = 1 → (wM_make_213 Q (fun l1 l2 l3 l4 l5 l7 l8 H G => wM_make_159 Q nn l1 l2 l3 l4 l5 l7 l8 H G) l1 l2 l3 l4 l5 l7 l8 l3 (e3_w32 ((e3_w32 (4 * l7)) + l8)) H G)) ∧ (¬ ((l8 : Int) = 1) → (((l8 : Int) = 2 → (wM_make_213 Q (fun l1 l2 l3 l4 l5 l7 l8 H G => wM_make_159 Q nn l1 l2 l3 l4 l5 l7 l8 H G) l1 l2 l3 l4 l5 l7 l8 l4 (e3_w32 ((e3_w32 (4 * l7)) + l8)) H G)) ∧ (¬ ((l8 : Int) = 2) → (wM_make_213 Q (fun l1 l2 l3 l4 l5 l7 l8 H G => wM_make_159 Q nn l1 l2 l3 l4 l5 l7 l8 H G) l1 l2 l3 l4 l5 l7 l8 l5 (e3_w32 ((e3_w32 (4 * l7)) + l8)) H G)))))))) ∧ (¬ ((l8 : Int) < (H 44 l1)) → Q l7 H G))
def wM_make_98 (Q : Int → e3_H → e3_G → Prop)  (H : e3_H) (G : e3_G) : Prop :=
  Q (-1) H G
def wM_make_67 (Q : Int → e3_H → e3_G → Prop) (k24 : Int → Int → Int → Int → Int → Int → Int → e3_H → e3_G → Prop) (l1 : Int) (l2 : Int) (l3 : Int) (l4 : Int) (l5 : Int) (l6 : Int) (l7 : Int) (s0 : Int) (H : e3_H) (G : e3_G) : Prop :=
  (wM_isValue (fun x3 H1 G2 => (((x3 : Int) = 0 → (wM_make_98 Q H1 G2)) ∧ (¬ ((x3 : Int) = 0) → ((0 : Int) ≤ (e3_w32 ((e3_w32 (4 * l1)) + l7)) ∧ ((e3_w32 ((e3_w32 (4 * l1)) + l7)) : Int) < 96) ∧ (wM_isOfSort (fun x7 H5 G6 => (((x7 : Int) = 0 → (wM_make_98 Q H5 G6)) ∧ (¬ ((x7 : Int) = 0) → ((0 : Int) ≤ s0 ∧ (s0 : Int) < 160) ∧ (k24 l1 l2 l3 l4 l5 (e3_w32 (l6 + (H5 131 s0))) (e3_w32 (l7 + 1)) H5 G6)))) s0 (H1 45 (e3_w32 ((e3_w32 (4 * l1)) + l7))) H1 G2)))) s0 H G)
def wM_make_24 (Q : Int → e3_H → e3_G → Prop) : Nat → Int → Int → Int → Int → Int → Int → Int → e3_H → e3_G → Prop
  | 0, _, _, _, _, _, _, _, _, _ => False
  | nn + 1, l1, l2, l3, l4, l5, l6, l7, H, G => ((0 : Int) ≤ l1 ∧ (l1 : Int) < 24) ∧ (((l7 : Int) < (H 44 l1) → (((l7 : Int) = 0 → (wM_make_67 Q (fun l1 l2 l3 l4 l5 l6 l7 H G => wM_make_24 Q nn l1 l2 l3 l4 l5 l6 l7 H G) l1 l2 l3 l4 l5 l6 l7 l2 H G)) ∧ (¬ ((l7 : Int) = 0) → (((l7 : Int) = 1 → (wM_make_67 Q (fun l1 l2 l3 l4 l5 l6 l7 H G => wM_make_24 Q nn l1 l2 l3 l4 l5 l6 l7 H G) l1 l2 l3 l4 l5 l6 l7 l3 H G)) ∧ (¬ ((l7 : Int) = 1) → (((l7 : Int) = 2 → (wM_make_67 Q (fun l1 l2 l3 l4 l5 l6 l7 H G => wM_make_24 Q nn l1 l2 l3 l4 l5 l6 l7 H G) l1 l2 l3 l4 l5 l6 l7 l4 H G)) ∧ (¬ ((l7 : Int) = 2) → (wM_make_67 Q (fun l1 l2 l3 l4 l5 l6 l7 H G => wM_make_24 Q nn l1 l2 l3 l4 l5 l6 l7 H G) l1 l2 l3 l4 l5 l6 l7 l5 H G)))))))) ∧ (¬ ((l7 : Int) < (H 44 l1)) → ((((H 40 109) : Int) = 160 → (wM_make_135 Q H G)) ∧ (¬ (((H 40 109) : Int) = 160) → (((60 : Int) < l6 → (wM_make_135 Q H G)) ∧ (¬ ((60 : Int) < l6) → (wM_newValue (fun x4 H2 G3 => ((0 : Int) ≤ x4 ∧ (x4 : Int) < 160) ∧ ∀ H5 : e3_H, H5 = e3_up H2 131 x4 l6 → (∃ n, wM_make_159 Q n l1 l2 l3 l4 l5 x4 0 H5 G3)) 4 l1 0 H G)))))))
def wM_make (Q : Int → e3_H → e3_G → Prop) (l1 : Int) (l2 : Int) (l3 : Int) (l4 : Int) (l5 : Int) (H : e3_H) (G : e3_G) : Prop :=
  (wM_isKind (fun x3 H1 G2 => (((x3 : Int) = 0 → (wM_make_16 Q H1 G2)) ∧ (¬ ((x3 : Int) = 0) → (wM_isSealed (fun x6 H4 G5 => (((x6 : Int) = 0 → (∃ n, wM_make_24 Q n l1 l2 l3 l4 l5 1 0 H4 G5)) ∧ (¬ ((x6 : Int) = 0) → (wM_make_16 Q H4 G5)))) l1 H1 G2)))) l1 H G)
set_option maxRecDepth 100000 in
set_option maxHeartbeats 4000000 in
theorem sM_make_16 (L : Nat) (xs : Nat → Int32) (Q : Int → e3_H → e3_G → Prop)  (H : e3_H) (G : e3_G) (h : wM_make_16 Q  H G) : e3_Ev (wB L xs) 2 46 280 16 [(3, 0), (3, 0), (3, 0), (3, 0), (3, 0), (3, 0), (3, 0), (3, 0), (3, 0)] [] H G (e3_q0 Q) := by
  unfold wM_make_16 at h
  refine e3_K [0] 17 [(3, 0), (3, 0), (3, 0), (3, 0), (3, 0), (3, 0), (3, 0), (3, 0), (3, 0)] [(0, (-1))] (H) (G) (wZ L xs) (M := tbM280) rfl rfl trivial ?_
  exact e3_reti (M := tbM280) rfl rfl rfl ⟨_, rfl, h⟩
set_option maxRecDepth 100000 in
set_option maxHeartbeats 4000000 in
theorem sM_make_135 (L : Nat) (xs : Nat → Int32) (Q : Int → e3_H → e3_G → Prop)  (H : e3_H) (G : e3_G) (h : wM_make_135 Q  H G) : e3_Ev (wB L xs) 2 46 280 135 [(3, 0), (3, 0), (3, 0), (3, 0), (3, 0), (3, 0), (3, 0), (3, 0), (3, 0)] [] H G (e3_q0 Q) := by
  unfold wM_make_135 at h
  refine e3_K [0] 137 [(3, 0), (3, 0), (3, 0), (3, 0), (3, 0), (3, 0), (3, 0), (3, 0), (3, 0)] [(0, (-3))] (H) (G) (wZ L xs) (M := tbM280) rfl rfl trivial ?_
  exact e3_reti (M := tbM280) rfl rfl rfl ⟨_, rfl, h⟩
set_option maxRecDepth 100000 in
set_option maxHeartbeats 4000000 in
theorem sM_make_213 (L : Nat) (xs : Nat → Int32) (Q : Int → e3_H → e3_G → Prop) (k159 : Int → Int → Int → Int → Int → Int → Int → e3_H → e3_G → Prop) (hk159 : ∀ (l1 : Int) (l2 : Int) (l3 : Int) (l4 : Int) (l5 : Int) (l7 : Int) (l8 : Int) (H : e3_H) (G : e3_G), k159 l1 l2 l3 l4 l5 l7 l8 H G → e3_Ev (wB L xs) 2 46 280 159 [(2, 40), (0, l1), (0, l2), (0, l3), (0, l4), (0, l5), (3, 0), (0, l7), (0, l8)] [] H G (e3_q0 Q)) (l1 : Int) (l2 : Int) (l3 : Int) (l4 : Int) (l5 : Int) (l7 : Int) (l8 : Int) (s0 : Int) (s1 : Int) (H : e3_H) (G : e3_G) (h : wM_make_213 Q k159 l1 l2 l3 l4 l5 l7 l8 s0 s1 H G) : e3_Ev (wB L xs) 2 46 280 213 [(2, 40), (0, l1), (0, l2), (0, l3), (0, l4), (0, l5), (3, 0), (0, l7), (0, l8)] [(0, s0), (0, s1), (2, 132)] H G (e3_q0 Q) := by
  unfold wM_make_213 at h
  obtain ⟨o2, h⟩ := h
  refine e3_K [2] 214 [(2, 40), (0, l1), (0, l2), (0, l3), (0, l4), (0, l5), (3, 0), (0, l7), (0, l8)] [] (e3_up H 132 s1 s0) (G) (wZ L xs) (M := tbM280) rfl rfl ⟨o2, trivial⟩ ?_
  generalize hH1 : (e3_up H 132 s1 s0) = H1
  replace h := h H1 hH1.symm
  refine e3_K [0, 0] 159 [(2, 40), (0, l1), (0, l2), (0, l3), (0, l4), (0, l5), (3, 0), (0, l7), (0, (e3_w32 (l8 + 1)))] [] (H1) (G) (wZ L xs) (M := tbM280) rfl rfl trivial ?_
  exact hk159 _ _ _ _ _ _ _ _ _ h
set_option maxRecDepth 100000 in
set_option maxHeartbeats 4000000 in
theorem sM_make_159 (L : Nat) (xs : Nat → Int32) (Q : Int → e3_H → e3_G → Prop) : ∀ (nl : Nat) (l1 : Int) (l2 : Int) (l3 : Int) (l4 : Int) (l5 : Int) (l7 : Int) (l8 : Int) (H : e3_H) (G : e3_G), wM_make_159 Q nl l1 l2 l3 l4 l5 l7 l8 H G → e3_Ev (wB L xs) 2 46 280 159 [(2, 40), (0, l1), (0, l2), (0, l3), (0, l4), (0, l5), (3, 0), (0, l7), (0, l8)] [] H G (e3_q0 Q) := by
  intro nl
  induction nl with
  | zero => intro l1 l2 l3 l4 l5 l7 l8 H G h; exact h.elim
  | succ nn ih =>
    intro l1 l2 l3 l4 l5 l7 l8 H G h
    have h : ((0 : Int) ≤ l1 ∧ (l1 : Int) < 24) ∧ (((l8 : Int) < (H 44 l1) → (((l8 : Int) = 0 → (wM_make_213 Q (fun l1 l2 l3 l4 l5 l7 l8 H G => wM_make_159 Q nn l1 l2 l3 l4 l5 l7 l8 H G) l1 l2 l3 l4 l5 l7 l8 l2 (e3_w32 ((e3_w32 (4 * l7)) + l8)) H G)) ∧ (¬ ((l8 : Int) = 0) → (((l8 : Int) = 1 → (wM_make_213 Q (fun l1 l2 l3 l4 l5 l7 l8 H G => wM_make_159 Q nn l1 l2 l3 l4 l5 l7 l8 H G) l1 l2 l3 l4 l5 l7 l8 l3 (e3_w32 ((e3_w32 (4 * l7)) + l8)) H G)) ∧ (¬ ((l8 : Int) = 1) → (((l8 : Int) = 2 → (wM_make_213 Q (fun l1 l2 l3 l4 l5 l7 l8 H G => wM_make_159 Q nn l1 l2 l3 l4 l5 l7 l8 H G) l1 l2 l3 l4 l5 l7 l8 l4 (e3_w32 ((e3_w32 (4 * l7)) + l8)) H G)) ∧ (¬ ((l8 : Int) = 2) → (wM_make_213 Q (fun l1 l2 l3 l4 l5 l7 l8 H G => wM_make_159 Q nn l1 l2 l3 l4 l5 l7 l8 H G) l1 l2 l3 l4 l5 l7 l8 l5 (e3_w32 ((e3_w32 (4 * l7)) + l8)) H G)))))))) ∧ (¬ ((l8 : Int) < (H 44 l1)) → Q l7 H G)) := h
    obtain ⟨o1, h⟩ := h
    refine e3_K [0, 0, 4, 0, 2] 167 [(2, 40), (0, l1), (0, l2), (0, l3), (0, l4), (0, l5), (3, 0), (0, l7), (0, l8)] [(0, (H 44 l1)), (0, l8)] (H) (G) (wZ L xs) (M := tbM280) rfl rfl ⟨trivial, o1, trivial⟩ ?_
    refine e3_br (M := tbM280) rfl rfl rfl Iff.rfl (fun hc => ?_) (fun hc => ?_)
    · replace h := h.1 hc
      refine e3_K [0, 4, 0, 0, 0, 0, 0, 0] 183 [(2, 40), (0, l1), (0, l2), (0, l3), (0, l4), (0, l5), (3, 0), (0, l7), (0, l8)] [(0, l8), (0, (e3_w32 ((e3_w32 (4 * l7)) + l8))), (2, 132)] (H) (G) (wZ L xs) (M := tbM280) rfl rfl ⟨trivial, trivial⟩ ?_
      refine e3_br (M := tbM280) rfl rfl rfl Iff.rfl (fun hc => ?_) (fun hc => ?_)
      · replace h := h.1 hc
        refine e3_K [0, 0] 213 [(2, 40), (0, l1), (0, l2), (0, l3), (0, l4), (0, l5), (3, 0), (0, l7), (0, l8)] [(0, l2), (0, (e3_w32 ((e3_w32 (4 * l7)) + l8))), (2, 132)] (H) (G) (wZ L xs) (M := tbM280) rfl rfl trivial ?_
        exact sM_make_213 L xs Q (fun l1 l2 l3 l4 l5 l7 l8 H G => wM_make_159 Q nn l1 l2 l3 l4 l5 l7 l8 H G) ih _ _ _ _ _ _ _ _ _ _ _ h
      · replace h := h.2 hc
        refine e3_K [0, 0] 193 [(2, 40), (0, l1), (0, l2), (0, l3), (0, l4), (0, l5), (3, 0), (0, l7), (0, l8)] [(0, 1), (0, l8), (0, (e3_w32 ((e3_w32 (4 * l7)) + l8))), (2, 132)] (H) (G) (wZ L xs) (M := tbM280) rfl rfl trivial ?_
        refine e3_br (M := tbM280) rfl rfl rfl Iff.rfl (fun hc => ?_) (fun hc => ?_)
        · replace h := h.1 hc
          refine e3_K [0, 0] 213 [(2, 40), (0, l1), (0, l2), (0, l3), (0, l4), (0, l5), (3, 0), (0, l7), (0, l8)] [(0, l3), (0, (e3_w32 ((e3_w32 (4 * l7)) + l8))), (2, 132)] (H) (G) (wZ L xs) (M := tbM280) rfl rfl trivial ?_
          exact sM_make_213 L xs Q (fun l1 l2 l3 l4 l5 l7 l8 H G => wM_make_159 Q nn l1 l2 l3 l4 l5 l7 l8 H G) ih _ _ _ _ _ _ _ _ _ _ _ h
        · replace h := h.2 hc
          refine e3_K [0, 0] 203 [(2, 40), (0, l1), (0, l2), (0, l3), (0, l4), (0, l5), (3, 0), (0, l7), (0, l8)] [(0, 2), (0, l8), (0, (e3_w32 ((e3_w32 (4 * l7)) + l8))), (2, 132)] (H) (G) (wZ L xs) (M := tbM280) rfl rfl trivial ?_
          refine e3_br (M := tbM280) rfl rfl rfl Iff.rfl (fun hc => ?_) (fun hc => ?_)
          · replace h := h.1 hc
            refine e3_K [0, 0] 213 [(2, 40), (0, l1), (0, l2), (0, l3), (0, l4), (0, l5), (3, 0), (0, l7), (0, l8)] [(0, l4), (0, (e3_w32 ((e3_w32 (4 * l7)) + l8))), (2, 132)] (H) (G) (wZ L xs) (M := tbM280) rfl rfl trivial ?_
            exact sM_make_213 L xs Q (fun l1 l2 l3 l4 l5 l7 l8 H G => wM_make_159 Q nn l1 l2 l3 l4 l5 l7 l8 H G) ih _ _ _ _ _ _ _ _ _ _ _ h
          · replace h := h.2 hc
            refine e3_K [0] 213 [(2, 40), (0, l1), (0, l2), (0, l3), (0, l4), (0, l5), (3, 0), (0, l7), (0, l8)] [(0, l5), (0, (e3_w32 ((e3_w32 (4 * l7)) + l8))), (2, 132)] (H) (G) (wZ L xs) (M := tbM280) rfl rfl trivial ?_
            exact sM_make_213 L xs Q (fun l1 l2 l3 l4 l5 l7 l8 H G => wM_make_159 Q nn l1 l2 l3 l4 l5 l7 l8 H G) ih _ _ _ _ _ _ _ _ _ _ _ h
    · replace h := h.2 hc
      refine e3_K [0] 222 [(2, 40), (0, l1), (0, l2), (0, l3), (0, l4), (0, l5), (3, 0), (0, l7), (0, l8)] [(0, l7)] (H) (G) (wZ L xs) (M := tbM280) rfl rfl trivial ?_
      exact e3_reti (M := tbM280) rfl rfl rfl ⟨_, rfl, h⟩
set_option maxRecDepth 100000 in
set_option maxHeartbeats 4000000 in
theorem sM_make_98 (L : Nat) (xs : Nat → Int32) (Q : Int → e3_H → e3_G → Prop)  (H : e3_H) (G : e3_G) (h : wM_make_98 Q  H G) : e3_Ev (wB L xs) 2 46 280 98 [(3, 0), (3, 0), (3, 0), (3, 0), (3, 0), (3, 0), (3, 0), (3, 0), (3, 0)] [] H G (e3_q0 Q) := by
  unfold wM_make_98 at h
  refine e3_K [0] 99 [(3, 0), (3, 0), (3, 0), (3, 0), (3, 0), (3, 0), (3, 0), (3, 0), (3, 0)] [(0, (-1))] (H) (G) (wZ L xs) (M := tbM280) rfl rfl trivial ?_
  exact e3_reti (M := tbM280) rfl rfl rfl ⟨_, rfl, h⟩
set_option maxRecDepth 100000 in
set_option maxHeartbeats 4000000 in
theorem sM_make_67 (L : Nat) (xs : Nat → Int32) (Q : Int → e3_H → e3_G → Prop) (k24 : Int → Int → Int → Int → Int → Int → Int → e3_H → e3_G → Prop) (hk24 : ∀ (l1 : Int) (l2 : Int) (l3 : Int) (l4 : Int) (l5 : Int) (l6 : Int) (l7 : Int) (H : e3_H) (G : e3_G), k24 l1 l2 l3 l4 l5 l6 l7 H G → e3_Ev (wB L xs) 2 46 280 24 [(2, 40), (0, l1), (0, l2), (0, l3), (0, l4), (0, l5), (0, l6), (0, l7), (3, 0)] [] H G (e3_q0 Q)) (l1 : Int) (l2 : Int) (l3 : Int) (l4 : Int) (l5 : Int) (l6 : Int) (l7 : Int) (s0 : Int) (H : e3_H) (G : e3_G) (h : wM_make_67 Q k24 l1 l2 l3 l4 l5 l6 l7 s0 H G) : e3_Ev (wB L xs) 2 46 280 67 [(2, 40), (0, l1), (0, l2), (0, l3), (0, l4), (0, l5), (0, l6), (0, l7), (3, 0)] [(0, s0)] H G (e3_q0 Q) := by
  unfold wM_make_67 at h
  refine e3_K [0, 0, 0] 72 [(2, 40), (0, l1), (0, l2), (0, l3), (0, l4), (0, l5), (0, l6), (0, l7), (0, s0)] [(0, s0), (2, 40)] (H) (G) (wZ L xs) (M := tbM280) rfl rfl trivial ?_
  refine e3_call (o := 0) (k := 281) (M2 := tbM281) (f1 := 1) (w1 := 25) (as := [(2, 40), (0, s0)]) (rest := []) (M := tbM280) rfl rfl rfl trivial (Nat.le_of_ble_eq_true rfl) (Nat.le_of_ble_eq_true rfl) (Nat.le_of_ble_eq_true rfl) ?_
  refine e3_mono (sM_isValue L xs _ _ _ _ h) (fun r H1 G2 h => ?_)
  obtain ⟨x3, rfl, h⟩ := h
  change e3_Ev _ _ _ _ 75 [(2, 40), (0, l1), (0, l2), (0, l3), (0, l4), (0, l5), (0, l6), (0, l7), (0, s0)] [(0, x3)] H1 G2 _
  refine e3_br (M := tbM280) rfl rfl rfl Iff.rfl (fun hc => ?_) (fun hc => ?_)
  · replace h := h.1 hc
    refine e3_fgt [false, false, false, false, false, false, false, false, false] ?_
    exact sM_make_98 L xs Q _ _ h
  · replace h := h.2 hc
    obtain ⟨o4, h⟩ := h
    refine e3_K [0, 0, 0, 4, 0, 0, 0, 0, 0, 2] 92 [(2, 40), (0, l1), (0, l2), (0, l3), (0, l4), (0, l5), (0, l6), (0, l7), (0, s0)] [(0, (H1 45 (e3_w32 ((e3_w32 (4 * l1)) + l7)))), (0, s0), (2, 40)] (H1) (G2) (wZ L xs) (M := tbM280) rfl rfl ⟨trivial, o4, trivial⟩ ?_
    refine e3_call (o := 0) (k := 282) (M2 := tbM282) (f1 := 1) (w1 := 23) (as := [(2, 40), (0, s0), (0, (H1 45 (e3_w32 ((e3_w32 (4 * l1)) + l7))))]) (rest := []) (M := tbM280) rfl rfl rfl trivial (Nat.le_of_ble_eq_true rfl) (Nat.le_of_ble_eq_true rfl) (Nat.le_of_ble_eq_true rfl) ?_
    refine e3_mono (sM_isOfSort L xs _ _ _ _ _ h) (fun r H5 G6 h => ?_)
    obtain ⟨x7, rfl, h⟩ := h
    change e3_Ev _ _ _ _ 95 [(2, 40), (0, l1), (0, l2), (0, l3), (0, l4), (0, l5), (0, l6), (0, l7), (0, s0)] [(0, x7)] H5 G6 _
    refine e3_br (M := tbM280) rfl rfl rfl Iff.rfl (fun hc => ?_) (fun hc => ?_)
    · replace h := h.1 hc
      refine e3_fgt [false, false, false, false, false, false, false, false, false] ?_
      exact sM_make_98 L xs Q _ _ h
    · replace h := h.2 hc
      obtain ⟨o8, h⟩ := h
      refine e3_K [0, 0, 4, 0, 2, 0, 0, 0, 0] 24 [(2, 40), (0, l1), (0, l2), (0, l3), (0, l4), (0, l5), (0, (e3_w32 (l6 + (H5 131 s0)))), (0, (e3_w32 (l7 + 1))), (0, s0)] [] (H5) (G6) (wZ L xs) (M := tbM280) rfl rfl ⟨trivial, o8, trivial⟩ ?_
      refine e3_fgt [true, true, true, true, true, true, true, true, false] ?_
      exact hk24 _ _ _ _ _ _ _ _ _ h
set_option maxRecDepth 100000 in
set_option maxHeartbeats 4000000 in
theorem sM_make_24 (L : Nat) (xs : Nat → Int32) (Q : Int → e3_H → e3_G → Prop) : ∀ (nl : Nat) (l1 : Int) (l2 : Int) (l3 : Int) (l4 : Int) (l5 : Int) (l6 : Int) (l7 : Int) (H : e3_H) (G : e3_G), wM_make_24 Q nl l1 l2 l3 l4 l5 l6 l7 H G → e3_Ev (wB L xs) 2 46 280 24 [(2, 40), (0, l1), (0, l2), (0, l3), (0, l4), (0, l5), (0, l6), (0, l7), (3, 0)] [] H G (e3_q0 Q) := by
  intro nl
  induction nl with
  | zero => intro l1 l2 l3 l4 l5 l6 l7 H G h; exact h.elim
  | succ nn ih =>
    intro l1 l2 l3 l4 l5 l6 l7 H G h
    have h : ((0 : Int) ≤ l1 ∧ (l1 : Int) < 24) ∧ (((l7 : Int) < (H 44 l1) → (((l7 : Int) = 0 → (wM_make_67 Q (fun l1 l2 l3 l4 l5 l6 l7 H G => wM_make_24 Q nn l1 l2 l3 l4 l5 l6 l7 H G) l1 l2 l3 l4 l5 l6 l7 l2 H G)) ∧ (¬ ((l7 : Int) = 0) → (((l7 : Int) = 1 → (wM_make_67 Q (fun l1 l2 l3 l4 l5 l6 l7 H G => wM_make_24 Q nn l1 l2 l3 l4 l5 l6 l7 H G) l1 l2 l3 l4 l5 l6 l7 l3 H G)) ∧ (¬ ((l7 : Int) = 1) → (((l7 : Int) = 2 → (wM_make_67 Q (fun l1 l2 l3 l4 l5 l6 l7 H G => wM_make_24 Q nn l1 l2 l3 l4 l5 l6 l7 H G) l1 l2 l3 l4 l5 l6 l7 l4 H G)) ∧ (¬ ((l7 : Int) = 2) → (wM_make_67 Q (fun l1 l2 l3 l4 l5 l6 l7 H G => wM_make_24 Q nn l1 l2 l3 l4 l5 l6 l7 H G) l1 l2 l3 l4 l5 l6 l7 l5 H G)))))))) ∧ (¬ ((l7 : Int) < (H 44 l1)) → ((((H 40 109) : Int) = 160 → (wM_make_135 Q H G)) ∧ (¬ (((H 40 109) : Int) = 160) → (((60 : Int) < l6 → (wM_make_135 Q H G)) ∧ (¬ ((60 : Int) < l6) → (wM_newValue (fun x4 H2 G3 => ((0 : Int) ≤ x4 ∧ (x4 : Int) < 160) ∧ ∀ H5 : e3_H, H5 = e3_up H2 131 x4 l6 → (∃ n, wM_make_159 Q n l1 l2 l3 l4 l5 x4 0 H5 G3)) 4 l1 0 H G))))))) := h
    obtain ⟨o1, h⟩ := h
    refine e3_K [0, 0, 4, 0, 2] 32 [(2, 40), (0, l1), (0, l2), (0, l3), (0, l4), (0, l5), (0, l6), (0, l7), (3, 0)] [(0, (H 44 l1)), (0, l7)] (H) (G) (wZ L xs) (M := tbM280) rfl rfl ⟨trivial, o1, trivial⟩ ?_
    refine e3_br (M := tbM280) rfl rfl rfl Iff.rfl (fun hc => ?_) (fun hc => ?_)
    · replace h := h.1 hc
      refine e3_K [0] 37 [(2, 40), (0, l1), (0, l2), (0, l3), (0, l4), (0, l5), (0, l6), (0, l7), (3, 0)] [(0, l7)] (H) (G) (wZ L xs) (M := tbM280) rfl rfl trivial ?_
      refine e3_br (M := tbM280) rfl rfl rfl Iff.rfl (fun hc => ?_) (fun hc => ?_)
      · replace h := h.1 hc
        refine e3_K [0, 0] 67 [(2, 40), (0, l1), (0, l2), (0, l3), (0, l4), (0, l5), (0, l6), (0, l7), (3, 0)] [(0, l2)] (H) (G) (wZ L xs) (M := tbM280) rfl rfl trivial ?_
        exact sM_make_67 L xs Q (fun l1 l2 l3 l4 l5 l6 l7 H G => wM_make_24 Q nn l1 l2 l3 l4 l5 l6 l7 H G) ih _ _ _ _ _ _ _ _ _ _ h
      · replace h := h.2 hc
        refine e3_K [0, 0] 47 [(2, 40), (0, l1), (0, l2), (0, l3), (0, l4), (0, l5), (0, l6), (0, l7), (3, 0)] [(0, 1), (0, l7)] (H) (G) (wZ L xs) (M := tbM280) rfl rfl trivial ?_
        refine e3_br (M := tbM280) rfl rfl rfl Iff.rfl (fun hc => ?_) (fun hc => ?_)
        · replace h := h.1 hc
          refine e3_K [0, 0] 67 [(2, 40), (0, l1), (0, l2), (0, l3), (0, l4), (0, l5), (0, l6), (0, l7), (3, 0)] [(0, l3)] (H) (G) (wZ L xs) (M := tbM280) rfl rfl trivial ?_
          exact sM_make_67 L xs Q (fun l1 l2 l3 l4 l5 l6 l7 H G => wM_make_24 Q nn l1 l2 l3 l4 l5 l6 l7 H G) ih _ _ _ _ _ _ _ _ _ _ h
        · replace h := h.2 hc
          refine e3_K [0, 0] 57 [(2, 40), (0, l1), (0, l2), (0, l3), (0, l4), (0, l5), (0, l6), (0, l7), (3, 0)] [(0, 2), (0, l7)] (H) (G) (wZ L xs) (M := tbM280) rfl rfl trivial ?_
          refine e3_br (M := tbM280) rfl rfl rfl Iff.rfl (fun hc => ?_) (fun hc => ?_)
          · replace h := h.1 hc
            refine e3_K [0, 0] 67 [(2, 40), (0, l1), (0, l2), (0, l3), (0, l4), (0, l5), (0, l6), (0, l7), (3, 0)] [(0, l4)] (H) (G) (wZ L xs) (M := tbM280) rfl rfl trivial ?_
            exact sM_make_67 L xs Q (fun l1 l2 l3 l4 l5 l6 l7 H G => wM_make_24 Q nn l1 l2 l3 l4 l5 l6 l7 H G) ih _ _ _ _ _ _ _ _ _ _ h
          · replace h := h.2 hc
            refine e3_K [0] 67 [(2, 40), (0, l1), (0, l2), (0, l3), (0, l4), (0, l5), (0, l6), (0, l7), (3, 0)] [(0, l5)] (H) (G) (wZ L xs) (M := tbM280) rfl rfl trivial ?_
            exact sM_make_67 L xs Q (fun l1 l2 l3 l4 l5 l6 l7 H G => wM_make_24 Q nn l1 l2 l3 l4 l5 l6 l7 H G) ih _ _ _ _ _ _ _ _ _ _ h
    · replace h := h.2 hc
      refine e3_K [0, 2, 0] 125 [(2, 40), (0, l1), (0, l2), (0, l3), (0, l4), (0, l5), (0, l6), (0, l7), (3, 0)] [(0, 160), (0, (H 40 109))] (H) (G) (wZ L xs) (M := tbM280) rfl rfl ⟨trivial, trivial⟩ ?_
      refine e3_br (M := tbM280) rfl rfl rfl Iff.rfl (fun hc => ?_) (fun hc => ?_)
      · replace h := h.1 hc
        refine e3_fgt [false, false, false, false, false, false, false, false, false] ?_
        exact sM_make_135 L xs Q _ _ h
      · replace h := h.2 hc
        refine e3_K [0, 0] 132 [(2, 40), (0, l1), (0, l2), (0, l3), (0, l4), (0, l5), (0, l6), (0, l7), (3, 0)] [(0, 60), (0, l6)] (H) (G) (wZ L xs) (M := tbM280) rfl rfl trivial ?_
        refine e3_br (M := tbM280) rfl rfl rfl Iff.rfl (fun hc => ?_) (fun hc => ?_)
        · replace h := h.1 hc
          refine e3_fgt [false, false, false, false, false, false, false, false, false] ?_
          exact sM_make_135 L xs Q _ _ h
        · replace h := h.2 hc
          refine e3_K [0, 0, 0, 0] 142 [(2, 40), (0, l1), (0, l2), (0, l3), (0, l4), (0, l5), (0, l6), (0, l7), (3, 0)] [(1, 0), (0, l1), (0, 4), (2, 40)] (H) (G) (wZ L xs) (M := tbM280) rfl rfl trivial ?_
          refine e3_call (o := 0) (k := 276) (M2 := tbM276) (f1 := 0) (w1 := 0) (as := [(2, 40), (0, 4), (0, l1), (1, 0)]) (rest := []) (M := tbM280) rfl rfl rfl trivial (Nat.le_of_ble_eq_true rfl) (Nat.le_of_ble_eq_true rfl) (Nat.le_of_ble_eq_true rfl) ?_
          refine e3_mono (sM_newValue L xs _ _ _ _ _ _ h) (fun r H2 G3 h => ?_)
          obtain ⟨x4, rfl, h⟩ := h
          change e3_Ev _ _ _ _ 145 [(2, 40), (0, l1), (0, l2), (0, l3), (0, l4), (0, l5), (0, l6), (0, l7), (3, 0)] [(0, x4)] H2 G3 _
          obtain ⟨o6, h⟩ := h
          refine e3_K [0, 0, 4, 0, 0, 2] 156 [(2, 40), (0, l1), (0, l2), (0, l3), (0, l4), (0, l5), (0, l6), (0, x4), (3, 0)] [] (e3_up H2 131 x4 l6) (G3) (wZ L xs) (M := tbM280) rfl rfl ⟨trivial, o6, trivial⟩ ?_
          generalize hH5 : (e3_up H2 131 x4 l6) = H5
          replace h := h H5 hH5.symm
          refine e3_K [0, 0] 159 [(2, 40), (0, l1), (0, l2), (0, l3), (0, l4), (0, l5), (0, l6), (0, x4), (0, 0)] [] (H5) (G3) (wZ L xs) (M := tbM280) rfl rfl trivial ?_
          refine e3_fgt [true, true, true, true, true, true, false, true, true] ?_
          obtain ⟨nl, h⟩ := h
          exact sM_make_159 L xs Q nl _ _ _ _ _ _ _ _ _ h
set_option maxRecDepth 100000 in
set_option maxHeartbeats 4000000 in
theorem sM_make (L : Nat) (xs : Nat → Int32) (Q : Int → e3_H → e3_G → Prop) (l1 : Int) (l2 : Int) (l3 : Int) (l4 : Int) (l5 : Int) (H : e3_H) (G : e3_G) (h : wM_make Q l1 l2 l3 l4 l5 H G) : e3_Ev (wB L xs) 2 46 280 0 [(2, 40), (0, l1), (0, l2), (0, l3), (0, l4), (0, l5), (3, 0), (3, 0), (3, 0)] [] H G (e3_q0 Q) := by
  unfold wM_make at h
  refine e3_K [0, 0] 2 [(2, 40), (0, l1), (0, l2), (0, l3), (0, l4), (0, l5), (3, 0), (3, 0), (3, 0)] [(0, l1), (2, 40)] (H) (G) (wZ L xs) (M := tbM280) rfl rfl trivial ?_
  refine e3_call (o := 0) (k := 267) (M2 := tbM267) (f1 := 1) (w1 := 25) (as := [(2, 40), (0, l1)]) (rest := []) (M := tbM280) rfl rfl rfl trivial (Nat.le_of_ble_eq_true rfl) (Nat.le_of_ble_eq_true rfl) (Nat.le_of_ble_eq_true rfl) ?_
  refine e3_mono (sM_isKind L xs _ _ _ _ h) (fun r H1 G2 h => ?_)
  obtain ⟨x3, rfl, h⟩ := h
  change e3_Ev _ _ _ _ 5 [(2, 40), (0, l1), (0, l2), (0, l3), (0, l4), (0, l5), (3, 0), (3, 0), (3, 0)] [(0, x3)] H1 G2 _
  refine e3_br (M := tbM280) rfl rfl rfl Iff.rfl (fun hc => ?_) (fun hc => ?_)
  · replace h := h.1 hc
    refine e3_fgt [false, false, false, false, false, false, false, false, false] ?_
    exact sM_make_16 L xs Q _ _ h
  · replace h := h.2 hc
    refine e3_K [0, 0] 10 [(2, 40), (0, l1), (0, l2), (0, l3), (0, l4), (0, l5), (3, 0), (3, 0), (3, 0)] [(0, l1), (2, 40)] (H1) (G2) (wZ L xs) (M := tbM280) rfl rfl trivial ?_
    refine e3_call (o := 0) (k := 213) (M2 := tbM213) (f1 := 0) (w1 := 0) (as := [(2, 40), (0, l1)]) (rest := []) (M := tbM280) rfl rfl rfl trivial (Nat.le_of_ble_eq_true rfl) (Nat.le_of_ble_eq_true rfl) (Nat.le_of_ble_eq_true rfl) ?_
    refine e3_mono (sM_isSealed L xs _ _ _ _ h) (fun r H4 G5 h => ?_)
    obtain ⟨x6, rfl, h⟩ := h
    change e3_Ev _ _ _ _ 13 [(2, 40), (0, l1), (0, l2), (0, l3), (0, l4), (0, l5), (3, 0), (3, 0), (3, 0)] [(0, x6)] H4 G5 _
    refine e3_br (M := tbM280) rfl rfl rfl Iff.rfl (fun hc => ?_) (fun hc => ?_)
    · replace h := h.1 hc
      refine e3_K [0, 0, 0, 0] 24 [(2, 40), (0, l1), (0, l2), (0, l3), (0, l4), (0, l5), (0, 1), (0, 0), (3, 0)] [] (H4) (G5) (wZ L xs) (M := tbM280) rfl rfl trivial ?_
      obtain ⟨nl, h⟩ := h
      exact sM_make_24 L xs Q nl _ _ _ _ _ _ _ _ _ h
    · replace h := h.2 hc
      refine e3_fgt [false, false, false, false, false, false, false, false, false] ?_
      exact sM_make_16 L xs Q _ _ h
