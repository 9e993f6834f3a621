/-- LetterPostModel.makes(IIIZ)Z -/
def wM_makes_264 (Q : Int → e3_H → e3_G → Prop) (k47 : Int → Int → Int → Int → e3_H → e3_G → Prop) (l1 : Int) (l3 : Int) (l5 : Int) (l6 : Int) (l7 : Int) (H : e3_H) (G : e3_G) : Prop :=
  (wM_settle (fun H1 G2 => (k47 l1 l3 l5 (e3_w32 (l6 + 1)) H1 G2)) l7 l3 H G)
def wM_makes_248 (Q : Int → e3_H → e3_G → Prop) (k47 : Int → Int → Int → Int → e3_H → e3_G → Prop) (l1 : Int) (l3 : Int) (l5 : Int) (l6 : Int) (l7 : Int) (l8 : Int) (H : e3_H) (G : e3_G) : Prop :=
  (((l8 : Int) = (-4) → (wM_makes_264 Q k47 l1 l3 l5 l6 l7 H G)) ∧ (¬ ((l8 : Int) = (-4)) → ((0 : Int) ≤ l8 ∧ (l8 : Int) < 3900) ∧ ∀ H1 : e3_H, H1 = e3_up H 109 l8 l7 → (wM_makes_264 Q k47 l1 l3 l5 l6 l7 H1 G)))
def wM_makes_227 (Q : Int → e3_H → e3_G → Prop) (k47 : Int → Int → Int → Int → e3_H → e3_G → Prop) (l1 : Int) (l3 : Int) (l5 : Int) (l6 : Int) (l7 : Int) (l8 : Int) (H : e3_H) (G : e3_G) : Prop :=
  (((l8 : Int) = (-4) → (wM_makes_248 Q k47 l1 l3 l5 l6 l7 l8 H G)) ∧ (¬ ((l8 : Int) = (-4)) → ((0 : Int) ≤ l8 ∧ (l8 : Int) < 3900) ∧ ((0 : Int) ≤ (H 109 l8) ∧ ((H 109 l8) : Int) < 3900) ∧ ∀ H1 : e3_H, H1 = e3_up H 110 (H 109 l8) l7 → (wM_makes_248 Q k47 l1 l3 l5 l6 l7 l8 H1 G)))
def wM_makes_47 (Q : Int → e3_H → e3_G → Prop) : Nat → Int → Int → Int → Int → e3_H → e3_G → Prop
  | 0, _, _, _, _, _, _ => False
  | nn + 1, l1, l3, l5, l6, H, G => (((0 : Int) < (H 40 93) → (((120 : Int) < (e3_w32 (l6 + (H 40 93))) → Q 0 H G) ∧ (¬ ((120 : Int) < (e3_w32 (l6 + (H 40 93)))) → ∀ H1 : e3_H, H1 = e3_up H 40 93 (e3_w32 ((H 40 93) - 1)) → ((0 : Int) ≤ (H1 40 93) ∧ ((H1 40 93) : Int) < 400) ∧ ((0 : Int) ≤ (e3_w32 (l5 + l6)) ∧ ((e3_w32 (l5 + l6)) : Int) < 3900) ∧ ∀ H2 : e3_H, H2 = e3_up H1 107 (e3_w32 (l5 + l6)) (H1 115 (H1 40 93)) → ((0 : Int) ≤ (H2 40 93) ∧ ((H2 40 93) : Int) < 400) ∧ ((0 : Int) ≤ (e3_w32 (l5 + l6)) ∧ ((e3_w32 (l5 + l6)) : Int) < 3900) ∧ ∀ H5 : e3_H, H5 = e3_up H2 111 (e3_w32 (l5 + l6)) (H2 116 (H2 40 93)) → ((0 : Int) ≤ (H5 40 93) ∧ ((H5 40 93) : Int) < 400) ∧ ((0 : Int) ≤ (e3_w32 (l5 + l6)) ∧ ((e3_w32 (l5 + l6)) : Int) < 3900) ∧ ∀ H8 : e3_H, H8 = e3_up H5 112 (e3_w32 (l5 + l6)) (H5 117 (H5 40 93)) → ((0 : Int) ≤ (H8 40 93) ∧ ((H8 40 93) : Int) < 400) ∧ ((0 : Int) ≤ (e3_w32 (l5 + l6)) ∧ ((e3_w32 (l5 + l6)) : Int) < 3900) ∧ ∀ H11 : e3_H, H11 = e3_up H8 113 (e3_w32 (l5 + l6)) (H8 118 (H8 40 93)) → ((0 : Int) ≤ (H11 40 93) ∧ ((H11 40 93) : Int) < 400) ∧ ((0 : Int) ≤ (e3_w32 (l5 + l6)) ∧ ((e3_w32 (l5 + l6)) : Int) < 3900) ∧ ∀ H14 : e3_H, H14 = e3_up H11 114 (e3_w32 (l5 + l6)) (e3_and (H11 119 (H11 40 93)) 1) → ((0 : Int) ≤ (e3_w32 (l5 + l6)) ∧ ((e3_w32 (l5 + l6)) : Int) < 3900) ∧ ∀ H17 : e3_H, H17 = e3_up H14 108 (e3_w32 (l5 + l6)) (-4) → ((0 : Int) ≤ (e3_w32 (l5 + l6)) ∧ ((e3_w32 (l5 + l6)) : Int) < 3900) ∧ ∀ H19 : e3_H, H19 = e3_up H17 109 (e3_w32 (l5 + l6)) (-4) → ((0 : Int) ≤ (e3_w32 (l5 + l6)) ∧ ((e3_w32 (l5 + l6)) : Int) < 3900) ∧ ∀ H21 : e3_H, H21 = e3_up H19 110 (e3_w32 (l5 + l6)) (-4) → ((((H1 115 (H1 40 93)) : Int) = (-4) → (wM_makes_227 Q (fun l1 l3 l5 l6 H G => wM_makes_47 Q nn l1 l3 l5 l6 H G) l1 l3 l5 l6 (e3_w32 (l5 + l6)) (H1 115 (H1 40 93)) H21 G)) ∧ (¬ (((H1 115 (H1 40 93)) : Int) = (-4)) → ((0 : Int) ≤ (H1 115 (H1 40 93)) ∧ ((H1 115 (H1 40 93)) : Int) < 3900) ∧ ((((H21 108 (H1 115 (H1 40 93))) : Int) = (-4) → ((0 : Int) ≤ (H1 115 (H1 40 93)) ∧ ((H1 115 (H1 40 93)) : Int) < 3900) ∧ ∀ H24 : e3_H, H24 = e3_up H21 108 (H1 115 (H1 40 93)) (e3_w32 (l5 + l6)) → (wM_makes_248 Q (fun l1 l3 l5 l6 H G => wM_makes_47 Q nn l1 l3 l5 l6 H G) l1 l3 l5 l6 (e3_w32 (l5 + l6)) (H1 115 (H1 40 93)) H24 G)) ∧ (¬ (((H21 108 (H1 115 (H1 40 93))) : Int) = (-4)) → (wM_makes_227 Q (fun l1 l3 l5 l6 H G => wM_makes_47 Q nn l1 l3 l5 l6 H G) l1 l3 l5 l6 (e3_w32 (l5 + l6)) (H1 115 (H1 40 93)) H21 G)))))))) ∧ (¬ ((0 : Int) < (H 40 93)) → ((0 : Int) ≤ l1 ∧ (l1 : Int) < 13) ∧ ∀ H26 : e3_H, H26 = e3_up H 99 l1 l6 → Q 1 H26 G))
def wM_makes (Q : Int → e3_H → e3_G → Prop) (l1 : Int) (l2 : Int) (l3 : Int) (l4 : Int) (H : e3_H) (G : e3_G) : Prop :=
  (wM_layRows (fun H1 G2 => ((0 : Int) ≤ l1 ∧ (l1 : Int) < 13) ∧ ∀ H4 : e3_H, H4 = e3_up H1 100 l1 l3 → ((0 : Int) ≤ l1 ∧ (l1 : Int) < 13) ∧ ∀ H6 : e3_H, H6 = e3_up H4 101 l1 (H4 40 10) → ∀ H8 : e3_H, H8 = e3_up H6 40 93 1 → ∀ H9 : e3_H, H9 = e3_up H8 115 0 (-4) → (∃ n, wM_makes_47 Q n l1 l3 (e3_w32 (300 * l1)) 0 H9 G2)) l2 l4 H G)
set_option maxRecDepth 100000 in
set_option maxHeartbeats 4000000 in
theorem sM_makes_264 (L : Nat) (xs : Nat → Int32) (Q : Int → e3_H → e3_G → Prop) (k47 : Int → Int → Int → Int → e3_H → e3_G → Prop) (hk47 : ∀ (l1 : Int) (l3 : Int) (l5 : Int) (l6 : Int) (H : e3_H) (G : e3_G), k47 l1 l3 l5 l6 H G → e3_Ev (wB L xs) 5 129 242 47 [(2, 40), (0, l1), (3, 0), (0, l3), (3, 0), (0, l5), (0, l6), (3, 0), (3, 0)] [] H G (e3_q0 Q)) (l1 : Int) (l3 : Int) (l5 : Int) (l6 : Int) (l7 : Int) (H : e3_H) (G : e3_G) (h : wM_makes_264 Q k47 l1 l3 l5 l6 l7 H G) : e3_Ev (wB L xs) 5 129 242 264 [(2, 40), (0, l1), (3, 0), (0, l3), (3, 0), (0, l5), (0, l6), (0, l7), (3, 0)] [] H G (e3_q0 Q) := by
  unfold wM_makes_264 at h
  refine e3_K [0, 0, 0, 0] 271 [(2, 40), (0, l1), (3, 0), (0, l3), (3, 0), (0, l5), (0, (e3_w32 (l6 + 1))), (0, l7), (3, 0)] [(0, l3), (0, l7), (2, 40)] (H) (G) (wZ L xs) (M := tbM242) rfl rfl trivial ?_
  refine e3_call (o := 0) (k := 249) (M2 := tbM249) (f1 := 4) (w1 := 104) (as := [(2, 40), (0, l7), (0, l3)]) (rest := []) (M := tbM242) rfl rfl rfl trivial (Nat.le_of_ble_eq_true rfl) (Nat.le_of_ble_eq_true rfl) (Nat.le_of_ble_eq_true rfl) ?_
  refine e3_mono (sM_settle L xs _ _ _ _ _ h) (fun r H1 G2 h => ?_)
  obtain ⟨rfl, h⟩ := h
  change e3_Ev _ _ _ _ 274 [(2, 40), (0, l1), (3, 0), (0, l3), (3, 0), (0, l5), (0, (e3_w32 (l6 + 1))), (0, l7), (3, 0)] [] H1 G2 _
  refine e3_K [0] 47 [(2, 40), (0, l1), (3, 0), (0, l3), (3, 0), (0, l5), (0, (e3_w32 (l6 + 1))), (0, l7), (3, 0)] [] (H1) (G2) (wZ L xs) (M := tbM242) rfl rfl trivial ?_
  refine e3_fgt [true, true, false, true, false, true, true, false, false] ?_
  exact hk47 _ _ _ _ _ _ h
set_option maxRecDepth 100000 in
set_option maxHeartbeats 4000000 in
theorem sM_makes_248 (L : Nat) (xs : Nat → Int32) (Q : Int → e3_H → e3_G → Prop) (k47 : Int → Int → Int → Int → e3_H → e3_G → Prop) (hk47 : ∀ (l1 : Int) (l3 : Int) (l5 : Int) (l6 : Int) (H : e3_H) (G : e3_G), k47 l1 l3 l5 l6 H G → e3_Ev (wB L xs) 5 129 242 47 [(2, 40), (0, l1), (3, 0), (0, l3), (3, 0), (0, l5), (0, l6), (3, 0), (3, 0)] [] H G (e3_q0 Q)) (l1 : Int) (l3 : Int) (l5 : Int) (l6 : Int) (l7 : Int) (l8 : Int) (H : e3_H) (G : e3_G) (h : wM_makes_248 Q k47 l1 l3 l5 l6 l7 l8 H G) : e3_Ev (wB L xs) 5 129 242 248 [(2, 40), (0, l1), (3, 0), (0, l3), (3, 0), (0, l5), (0, l6), (0, l7), (0, l8)] [] H G (e3_q0 Q) := by
  unfold wM_makes_248 at h
  refine e3_K [0, 0] 252 [(2, 40), (0, l1), (3, 0), (0, l3), (3, 0), (0, l5), (0, l6), (0, l7), (0, l8)] [(0, (-4)), (0, l8)] (H) (G) (wZ L xs) (M := tbM242) rfl rfl trivial ?_
  refine e3_br (M := tbM242) rfl rfl rfl Iff.rfl (fun hc => ?_) (fun hc => ?_)
  · replace h := h.1 hc
    refine e3_fgt [true, true, false, true, false, true, true, true, false] ?_
    exact sM_makes_264 L xs Q k47 hk47 _ _ _ _ _ _ _ h
  · replace h := h.2 hc
    obtain ⟨o2, h⟩ := h
    refine e3_K [0, 4, 0, 0, 2] 264 [(2, 40), (0, l1), (3, 0), (0, l3), (3, 0), (0, l5), (0, l6), (0, l7), (0, l8)] [] (e3_up H 109 l8 l7) (G) (wZ L xs) (M := tbM242) rfl rfl ⟨trivial, o2, trivial⟩ ?_
    generalize hH1 : (e3_up H 109 l8 l7) = H1
    replace h := h H1 hH1.symm
    refine e3_fgt [true, true, false, true, false, true, true, true, false] ?_
    exact sM_makes_264 L xs Q k47 hk47 _ _ _ _ _ _ _ h
set_option maxRecDepth 100000 in
set_option maxHeartbeats 4000000 in
theorem sM_makes_227 (L : Nat) (xs : Nat → Int32) (Q : Int → e3_H → e3_G → Prop) (k47 : Int → Int → Int → Int → e3_H → e3_G → Prop) (hk47 : ∀ (l1 : Int) (l3 : Int) (l5 : Int) (l6 : Int) (H : e3_H) (G : e3_G), k47 l1 l3 l5 l6 H G → e3_Ev (wB L xs) 5 129 242 47 [(2, 40), (0, l1), (3, 0), (0, l3), (3, 0), (0, l5), (0, l6), (3, 0), (3, 0)] [] H G (e3_q0 Q)) (l1 : Int) (l3 : Int) (l5 : Int) (l6 : Int) (l7 : Int) (l8 : Int) (H : e3_H) (G : e3_G) (h : wM_makes_227 Q k47 l1 l3 l5 l6 l7 l8 H G) : e3_Ev (wB L xs) 5 129 242 227 [(2, 40), (0, l1), (3, 0), (0, l3), (3, 0), (0, l5), (0, l6), (0, l7), (0, l8)] [] H G (e3_q0 Q) := by
  unfold wM_makes_227 at h
  refine e3_K [0, 0] 231 [(2, 40), (0, l1), (3, 0), (0, l3), (3, 0), (0, l5), (0, l6), (0, l7), (0, l8)] [(0, (-4)), (0, l8)] (H) (G) (wZ L xs) (M := tbM242) rfl rfl trivial ?_
  refine e3_br (M := tbM242) rfl rfl rfl Iff.rfl (fun hc => ?_) (fun hc => ?_)
  · replace h := h.1 hc
    exact sM_makes_248 L xs Q k47 hk47 _ _ _ _ _ _ _ _ h
  · replace h := h.2 hc
    obtain ⟨o2, o3, h⟩ := h
    refine e3_K [0, 4, 0, 4, 0, 2, 0, 2] 248 [(2, 40), (0, l1), (3, 0), (0, l3), (3, 0), (0, l5), (0, l6), (0, l7), (0, l8)] [] (e3_up H 110 (H 109 l8) l7) (G) (wZ L xs) (M := tbM242) rfl rfl ⟨trivial, trivial, o2, o3, trivial⟩ ?_
    generalize hH1 : (e3_up H 110 (H 109 l8) l7) = H1
    replace h := h H1 hH1.symm
    exact sM_makes_248 L xs Q k47 hk47 _ _ _ _ _ _ _ _ h
set_option maxRecDepth 100000 in
set_option maxHeartbeats 4000000 in
theorem sM_makes_47 (L : Nat) (xs : Nat → Int32) (Q : Int → e3_H → e3_G → Prop) : ∀ (nl : Nat) (l1 : Int) (l3 : Int) (l5 : Int) (l6 : Int) (H : e3_H) (G : e3_G), wM_makes_47 Q nl l1 l3 l5 l6 H G → e3_Ev (wB L xs) 5 129 242 47 [(2, 40), (0, l1), (3, 0), (0, l3), (3, 0), (0, l5), (0, l6), (3, 0), (3, 0)] [] H G (e3_q0 Q) := by
  intro nl
  induction nl with
  | zero => intro l1 l3 l5 l6 H G h; exact h.elim
  | succ nn ih =>
    intro l1 l3 l5 l6 H G h
    have h : (((0 : Int) < (H 40 93) → (((120 : Int) < (e3_w32 (l6 + (H 40 93))) → Q 0 H G) ∧ (¬ ((120 : Int) < (e3_w32 (l6 + (H 40 93)))) → ∀ H1 : e3_H, H1 = e3_up H 40 93 (e3_w32 ((H 40 93) - 1)) → ((0 : Int) ≤ (H1 40 93) ∧ ((H1 40 93) : Int) < 400) ∧ ((0 : Int) ≤ (e3_w32 (l5 + l6)) ∧ ((e3_w32 (l5 + l6)) : Int) < 3900) ∧ ∀ H2 : e3_H, H2 = e3_up H1 107 (e3_w32 (l5 + l6)) (H1 115 (H1 40 93)) → ((0 : Int) ≤ (H2 40 93) ∧ ((H2 40 93) : Int) < 400) ∧ ((0 : Int) ≤ (e3_w32 (l5 + l6)) ∧ ((e3_w32 (l5 + l6)) : Int) < 3900) ∧ ∀ H5 : e3_H, H5 = e3_up H2 111 (e3_w32 (l5 + l6)) (H2 116 (H2 40 93)) → ((0 : Int) ≤ (H5 40 93) ∧ ((H5 40 93) : Int) < 400) ∧ ((0 : Int) ≤ (e3_w32 (l5 + l6)) ∧ ((e3_w32 (l5 + l6)) : Int) < 3900) ∧ ∀ H8 : e3_H, H8 = e3_up H5 112 (e3_w32 (l5 + l6)) (H5 117 (H5 40 93)) → ((0 : Int) ≤ (H8 40 93) ∧ ((H8 40 93) : Int) < 400) ∧ ((0 : Int) ≤ (e3_w32 (l5 + l6)) ∧ ((e3_w32 (l5 + l6)) : Int) < 3900) ∧ ∀ H11 : e3_H, H11 = e3_up H8 113 (e3_w32 (l5 + l6)) (H8 118 (H8 40 93)) → ((0 : Int) ≤ (H11 40 93) ∧ ((H11 40 93) : Int) < 400) ∧ ((0 : Int) ≤ (e3_w32 (l5 + l6)) ∧ ((e3_w32 (l5 + l6)) : Int) < 3900) ∧ ∀ H14 : e3_H, H14 = e3_up H11 114 (e3_w32 (l5 + l6)) (e3_and (H11 119 (H11 40 93)) 1) → ((0 : Int) ≤ (e3_w32 (l5 + l6)) ∧ ((e3_w32 (l5 + l6)) : Int) < 3900) ∧ ∀ H17 : e3_H, H17 = e3_up H14 108 (e3_w32 (l5 + l6)) (-4) → ((0 : Int) ≤ (e3_w32 (l5 + l6)) ∧ ((e3_w32 (l5 + l6)) : Int) < 3900) ∧ ∀ H19 : e3_H, H19 = e3_up H17 109 (e3_w32 (l5 + l6)) (-4) → ((0 : Int) ≤ (e3_w32 (l5 + l6)) ∧ ((e3_w32 (l5 + l6)) : Int) < 3900) ∧ ∀ H21 : e3_H, H21 = e3_up H19 110 (e3_w32 (l5 + l6)) (-4) → ((((H1 115 (H1 40 93)) : Int) = (-4) → (wM_makes_227 Q (fun l1 l3 l5 l6 H G => wM_makes_47 Q nn l1 l3 l5 l6 H G) l1 l3 l5 l6 (e3_w32 (l5 + l6)) (H1 115 (H1 40 93)) H21 G)) ∧ (¬ (((H1 115 (H1 40 93)) : Int) = (-4)) → ((0 : Int) ≤ (H1 115 (H1 40 93)) ∧ ((H1 115 (H1 40 93)) : Int) < 3900) ∧ ((((H21 108 (H1 115 (H1 40 93))) : Int) = (-4) → ((0 : Int) ≤ (H1 115 (H1 40 93)) ∧ ((H1 115 (H1 40 93)) : Int) < 3900) ∧ ∀ H24 : e3_H, H24 = e3_up H21 108 (H1 115 (H1 40 93)) (e3_w32 (l5 + l6)) → (wM_makes_248 Q (fun l1 l3 l5 l6 H G => wM_makes_47 Q nn l1 l3 l5 l6 H G) l1 l3 l5 l6 (e3_w32 (l5 + l6)) (H1 115 (H1 40 93)) H24 G)) ∧ (¬ (((H21 108 (H1 115 (H1 40 93))) : Int) = (-4)) → (wM_makes_227 Q (fun l1 l3 l5 l6 H G => wM_makes_47 Q nn l1 l3 l5 l6 H G) l1 l3 l5 l6 (e3_w32 (l5 + l6)) (H1 115 (H1 40 93)) H21 G)))))))) ∧ (¬ ((0 : Int) < (H 40 93)) → ((0 : Int) ≤ l1 ∧ (l1 : Int) < 13) ∧ ∀ H26 : e3_H, H26 = e3_up H 99 l1 l6 → Q 1 H26 G)) := h
    refine e3_K [0, 2] 51 [(2, 40), (0, l1), (3, 0), (0, l3), (3, 0), (0, l5), (0, l6), (3, 0), (3, 0)] [(0, (H 40 93))] (H) (G) (wZ L xs) (M := tbM242) rfl rfl ⟨trivial, trivial⟩ ?_
    refine e3_br (M := tbM242) rfl rfl rfl Iff.rfl (fun hc => ?_) (fun hc => ?_)
    · replace h := h.1 hc
      refine e3_K [0, 0, 2, 0, 0] 63 [(2, 40), (0, l1), (3, 0), (0, l3), (3, 0), (0, l5), (0, l6), (3, 0), (3, 0)] [(0, 120), (0, (e3_w32 (l6 + (H 40 93))))] (H) (G) (wZ L xs) (M := tbM242) rfl rfl ⟨trivial, trivial⟩ ?_
      refine e3_br (M := tbM242) rfl rfl rfl Iff.rfl (fun hc => ?_) (fun hc => ?_)
      · replace h := h.1 hc
        refine e3_K [0] 67 [(2, 40), (0, l1), (3, 0), (0, l3), (3, 0), (0, l5), (0, l6), (3, 0), (3, 0)] [(0, 0)] (H) (G) (wZ L xs) (M := tbM242) rfl rfl trivial ?_
        exact e3_retb (M := tbM242) rfl rfl rfl (Or.inl rfl) ⟨_, rfl, h⟩
      · replace h := h.2 hc
        refine e3_K [0, 0, 2, 0, 0, 2] 78 [(2, 40), (0, l1), (3, 0), (0, l3), (3, 0), (0, l5), (0, l6), (3, 0), (3, 0)] [] (e3_up H 40 93 (e3_w32 ((H 40 93) - 1))) (G) (wZ L xs) (M := tbM242) rfl rfl ⟨trivial, trivial, trivial⟩ ?_
        generalize hH1 : (e3_up H 40 93 (e3_w32 ((H 40 93) - 1))) = H1
        replace h := h H1 hH1.symm
        obtain ⟨o3, o4, h⟩ := h
        refine e3_K [0, 0, 0, 0, 0, 4, 0, 2, 2, 0, 0, 4, 0, 0, 2] 105 [(2, 40), (0, l1), (3, 0), (0, l3), (3, 0), (0, l5), (0, l6), (0, (e3_w32 (l5 + l6))), (0, (H1 115 (H1 40 93)))] [] (e3_up H1 107 (e3_w32 (l5 + l6)) (H1 115 (H1 40 93))) (G) (wZ L xs) (M := tbM242) rfl rfl ⟨trivial, trivial, o3, trivial, o4, trivial⟩ ?_
        generalize hH2 : (e3_up H1 107 (e3_w32 (l5 + l6)) (H1 115 (H1 40 93))) = H2
        replace h := h H2 hH2.symm
        obtain ⟨o6, o7, h⟩ := h
        refine e3_K [0, 4, 0, 0, 4, 0, 2, 2, 2] 121 [(2, 40), (0, l1), (3, 0), (0, l3), (3, 0), (0, l5), (0, l6), (0, (e3_w32 (l5 + l6))), (0, (H1 115 (H1 40 93)))] [] (e3_up H2 111 (e3_w32 (l5 + l6)) (H2 116 (H2 40 93))) (G) (wZ L xs) (M := tbM242) rfl rfl ⟨trivial, trivial, trivial, o6, o7, trivial⟩ ?_
        generalize hH5 : (e3_up H2 111 (e3_w32 (l5 + l6)) (H2 116 (H2 40 93))) = H5
        replace h := h H5 hH5.symm
        obtain ⟨o9, o10, h⟩ := h
        refine e3_K [0, 4, 0, 0, 4, 0, 2, 2, 2] 137 [(2, 40), (0, l1), (3, 0), (0, l3), (3, 0), (0, l5), (0, l6), (0, (e3_w32 (l5 + l6))), (0, (H1 115 (H1 40 93)))] [] (e3_up H5 112 (e3_w32 (l5 + l6)) (H5 117 (H5 40 93))) (G) (wZ L xs) (M := tbM242) rfl rfl ⟨trivial, trivial, trivial, o9, o10, trivial⟩ ?_
        generalize hH8 : (e3_up H5 112 (e3_w32 (l5 + l6)) (H5 117 (H5 40 93))) = H8
        replace h := h H8 hH8.symm
        obtain ⟨o12, o13, h⟩ := h
        refine e3_K [0, 4, 0, 0, 4, 0, 2, 2, 2] 153 [(2, 40), (0, l1), (3, 0), (0, l3), (3, 0), (0, l5), (0, l6), (0, (e3_w32 (l5 + l6))), (0, (H1 115 (H1 40 93)))] [] (e3_up H8 113 (e3_w32 (l5 + l6)) (H8 118 (H8 40 93))) (G) (wZ L xs) (M := tbM242) rfl rfl ⟨trivial, trivial, trivial, o12, o13, trivial⟩ ?_
        generalize hH11 : (e3_up H8 113 (e3_w32 (l5 + l6)) (H8 118 (H8 40 93))) = H11
        replace h := h H11 hH11.symm
        obtain ⟨o15, o16, h⟩ := h
        refine e3_K [0, 4, 0, 0, 4, 0, 2, 2, 2] 169 [(2, 40), (0, l1), (3, 0), (0, l3), (3, 0), (0, l5), (0, l6), (0, (e3_w32 (l5 + l6))), (0, (H1 115 (H1 40 93)))] [] (e3_up H11 114 (e3_w32 (l5 + l6)) (e3_and (H11 119 (H11 40 93)) 1)) (G) (wZ L xs) (M := tbM242) rfl rfl ⟨trivial, trivial, trivial, o15, o16, trivial⟩ ?_
        generalize hH14 : (e3_up H11 114 (e3_w32 (l5 + l6)) (e3_and (H11 119 (H11 40 93)) 1)) = H14
        replace h := h H14 hH14.symm
        obtain ⟨o18, h⟩ := h
        refine e3_K [0, 4, 0, 0, 2] 178 [(2, 40), (0, l1), (3, 0), (0, l3), (3, 0), (0, l5), (0, l6), (0, (e3_w32 (l5 + l6))), (0, (H1 115 (H1 40 93)))] [] (e3_up H14 108 (e3_w32 (l5 + l6)) (-4)) (G) (wZ L xs) (M := tbM242) rfl rfl ⟨trivial, o18, trivial⟩ ?_
        generalize hH17 : (e3_up H14 108 (e3_w32 (l5 + l6)) (-4)) = H17
        replace h := h H17 hH17.symm
        obtain ⟨o20, h⟩ := h
        refine e3_K [0, 4, 0, 0, 2] 187 [(2, 40), (0, l1), (3, 0), (0, l3), (3, 0), (0, l5), (0, l6), (0, (e3_w32 (l5 + l6))), (0, (H1 115 (H1 40 93)))] [] (e3_up H17 109 (e3_w32 (l5 + l6)) (-4)) (G) (wZ L xs) (M := tbM242) rfl rfl ⟨trivial, o20, trivial⟩ ?_
        generalize hH19 : (e3_up H17 109 (e3_w32 (l5 + l6)) (-4)) = H19
        replace h := h H19 hH19.symm
        obtain ⟨o22, h⟩ := h
        refine e3_K [0, 4, 0, 0, 2] 196 [(2, 40), (0, l1), (3, 0), (0, l3), (3, 0), (0, l5), (0, l6), (0, (e3_w32 (l5 + l6))), (0, (H1 115 (H1 40 93)))] [] (e3_up H19 110 (e3_w32 (l5 + l6)) (-4)) (G) (wZ L xs) (M := tbM242) rfl rfl ⟨trivial, o22, trivial⟩ ?_
        generalize hH21 : (e3_up H19 110 (e3_w32 (l5 + l6)) (-4)) = H21
        replace h := h H21 hH21.symm
        refine e3_K [0, 0] 200 [(2, 40), (0, l1), (3, 0), (0, l3), (3, 0), (0, l5), (0, l6), (0, (e3_w32 (l5 + l6))), (0, (H1 115 (H1 40 93)))] [(0, (-4)), (0, (H1 115 (H1 40 93)))] (H21) (G) (wZ L xs) (M := tbM242) rfl rfl trivial ?_
        refine e3_br (M := tbM242) rfl rfl rfl Iff.rfl (fun hc => ?_) (fun hc => ?_)
        · replace h := h.1 hc
          exact sM_makes_227 L xs Q (fun l1 l3 l5 l6 H G => wM_makes_47 Q nn l1 l3 l5 l6 H G) ih _ _ _ _ _ _ _ _ h
        · replace h := h.2 hc
          obtain ⟨o23, h⟩ := h
          refine e3_K [0, 4, 0, 2, 0] 212 [(2, 40), (0, l1), (3, 0), (0, l3), (3, 0), (0, l5), (0, l6), (0, (e3_w32 (l5 + l6))), (0, (H1 115 (H1 40 93)))] [(0, (-4)), (0, (H21 108 (H1 115 (H1 40 93))))] (H21) (G) (wZ L xs) (M := tbM242) rfl rfl ⟨trivial, o23, trivial⟩ ?_
          refine e3_br (M := tbM242) rfl rfl rfl Iff.rfl (fun hc => ?_) (fun hc => ?_)
          · replace h := h.1 hc
            obtain ⟨o25, h⟩ := h
            refine e3_K [0, 4, 0, 0, 2] 224 [(2, 40), (0, l1), (3, 0), (0, l3), (3, 0), (0, l5), (0, l6), (0, (e3_w32 (l5 + l6))), (0, (H1 115 (H1 40 93)))] [] (e3_up H21 108 (H1 115 (H1 40 93)) (e3_w32 (l5 + l6))) (G) (wZ L xs) (M := tbM242) rfl rfl ⟨trivial, o25, trivial⟩ ?_
            generalize hH24 : (e3_up H21 108 (H1 115 (H1 40 93)) (e3_w32 (l5 + l6))) = H24
            replace h := h H24 hH24.symm
            refine e3_K [0] 248 [(2, 40), (0, l1), (3, 0), (0, l3), (3, 0), (0, l5), (0, l6), (0, (e3_w32 (l5 + l6))), (0, (H1 115 (H1 40 93)))] [] (H24) (G) (wZ L xs) (M := tbM242) rfl rfl trivial ?_
            exact sM_makes_248 L xs Q (fun l1 l3 l5 l6 H G => wM_makes_47 Q nn l1 l3 l5 l6 H G) ih _ _ _ _ _ _ _ _ h
          · replace h := h.2 hc
            exact sM_makes_227 L xs Q (fun l1 l3 l5 l6 H G => wM_makes_47 Q nn l1 l3 l5 l6 H G) ih _ _ _ _ _ _ _ _ h
    · replace h := h.2 hc
      obtain ⟨o27, h⟩ := h
      refine e3_K [0, 4, 0, 0, 2] 285 [(2, 40), (0, l1), (3, 0), (0, l3), (3, 0), (0, l5), (0, l6), (3, 0), (3, 0)] [] (e3_up H 99 l1 l6) (G) (wZ L xs) (M := tbM242) rfl rfl ⟨trivial, o27, trivial⟩ ?_
      generalize hH26 : (e3_up H 99 l1 l6) = H26
      replace h := h H26 hH26.symm
      refine e3_K [0] 286 [(2, 40), (0, l1), (3, 0), (0, l3), (3, 0), (0, l5), (0, l6), (3, 0), (3, 0)] [(0, 1)] (H26) (G) (wZ L xs) (M := tbM242) rfl rfl trivial ?_
      exact e3_retb (M := tbM242) rfl rfl rfl (Or.inr rfl) ⟨_, rfl, h⟩
set_option maxRecDepth 100000 in
set_option maxHeartbeats 4000000 in
theorem sM_makes (L : Nat) (xs : Nat → Int32) (Q : Int → e3_H → e3_G → Prop) (l1 : Int) (l2 : Int) (l3 : Int) (l4 : Int) (H : e3_H) (G : e3_G) (h : wM_makes Q l1 l2 l3 l4 H G) : e3_Ev (wB L xs) 5 129 242 0 [(2, 40), (0, l1), (0, l2), (0, l3), (0, l4), (3, 0), (3, 0), (3, 0), (3, 0)] [] H G (e3_q0 Q) := by
  unfold wM_makes at h
  refine e3_K [0, 0, 0] 4 [(2, 40), (0, l1), (0, l2), (0, l3), (0, l4), (3, 0), (3, 0), (3, 0), (3, 0)] [(0, l4), (0, l2), (2, 40)] (H) (G) (wZ L xs) (M := tbM242) rfl rfl trivial ?_
  refine e3_call (o := 0) (k := 243) (M2 := tbM243) (f1 := 3) (w1 := 77) (as := [(2, 40), (0, l2), (0, l4)]) (rest := []) (M := tbM242) rfl rfl rfl trivial (Nat.le_of_ble_eq_true rfl) (Nat.le_of_ble_eq_true rfl) (Nat.le_of_ble_eq_true rfl) ?_
  refine e3_mono (sM_layRows L xs _ _ _ _ _ h) (fun r H1 G2 h => ?_)
  obtain ⟨rfl, h⟩ := h
  change e3_Ev _ _ _ _ 7 [(2, 40), (0, l1), (0, l2), (0, l3), (0, l4), (3, 0), (3, 0), (3, 0), (3, 0)] [] H1 G2 _
  obtain ⟨o5, h⟩ := h
  refine e3_K [0, 4, 0, 0, 2] 14 [(2, 40), (0, l1), (0, l2), (0, l3), (0, l4), (3, 0), (3, 0), (3, 0), (3, 0)] [] (e3_up H1 100 l1 l3) (G2) (wZ L xs) (M := tbM242) rfl rfl ⟨trivial, o5, trivial⟩ ?_
  generalize hH4 : (e3_up H1 100 l1 l3) = H4
  replace h := h H4 hH4.symm
  obtain ⟨o7, h⟩ := h
  refine e3_K [0, 4, 0, 0, 2, 2] 24 [(2, 40), (0, l1), (0, l2), (0, l3), (0, l4), (3, 0), (3, 0), (3, 0), (3, 0)] [] (e3_up H4 101 l1 (H4 40 10)) (G2) (wZ L xs) (M := tbM242) rfl rfl ⟨trivial, trivial, o7, trivial⟩ ?_
  generalize hH6 : (e3_up H4 101 l1 (H4 40 10)) = H6
  replace h := h H6 hH6.symm
  refine e3_K [0, 0, 0, 0, 0, 0, 0, 0, 2] 39 [(2, 40), (0, l1), (0, l2), (0, l3), (0, l4), (0, (e3_w32 (300 * l1))), (0, 0), (3, 0), (3, 0)] [] (e3_up H6 40 93 1) (G2) (wZ L xs) (M := tbM242) rfl rfl ⟨trivial, trivial⟩ ?_
  generalize hH8 : (e3_up H6 40 93 1) = H8
  replace h := h H8 hH8.symm
  refine e3_K [0, 4, 0, 0, 2] 47 [(2, 40), (0, l1), (0, l2), (0, l3), (0, l4), (0, (e3_w32 (300 * l1))), (0, 0), (3, 0), (3, 0)] [] (e3_up H8 115 0 (-4)) (G2) (wZ L xs) (M := tbM242) rfl rfl ⟨trivial, ⟨by decide, by decide⟩, trivial⟩ ?_
  generalize hH9 : (e3_up H8 115 0 (-4)) = H9
  replace h := h H9 hH9.symm
  refine e3_fgt [true, true, false, true, false, true, true, false, false] ?_
  obtain ⟨nl, h⟩ := h
  exact sM_makes_47 L xs Q nl _ _ _ _ _ _ h
/-- LetterPostModel.read()I -/
def wM_read_229 (Q : Int → e3_H → e3_G → Prop) (s0 : Int) (H : e3_H) (G : e3_G) : Prop :=
  Q s0 H G
def wM_read_202 (Q : Int → e3_H → e3_G → Prop) (l1 : Int) (l2 : Int) (H : e3_H) (G : e3_G) : Prop :=
  (((0 : Int) < (H 40 7) → (wM_read_229 Q (e3_w32 ((-10) - (H 40 8))) H G)) ∧ (¬ ((0 : Int) < (H 40 7)) → (((l1 : Int) = 0 → (wM_read_229 Q l2 H G)) ∧ (¬ ((l1 : Int) = 0) → (wM_read_229 Q (-3) H G)))))
def wM_read_177 (Q : Int → e3_H → e3_G → Prop) (l1 : Int) (s0 : Int) (H : e3_H) (G : e3_G) : Prop :=
  ((s0 : Int) = 0 ∨ s0 = 1) ∧ ∀ H1 : e3_H, H1 = e3_up H 40 9 s0 → ((((H1 40 9) : Int) = 0 → ∀ H3 : e3_H, H3 = e3_up H1 40 10 0 → ∀ H4 : e3_H, H4 = e3_up H3 40 41 0 → (wM_read_202 Q l1 (H1 40 41) H4 G)) ∧ (¬ (((H1 40 9) : Int) = 0) → (wM_read_202 Q l1 (H1 40 41) H1 G)))
def wM_read_176 (Q : Int → e3_H → e3_G → Prop) (l1 : Int) (H : e3_H) (G : e3_G) : Prop :=
  (wM_read_177 Q l1 0 H G)
def wM_read_160 (Q : Int → e3_H → e3_G → Prop) (l1 : Int) (H : e3_H) (G : e3_G) : Prop :=
  ((((H 40 7) : Int) = 0 → (((l1 : Int) = 0 → (wM_read_177 Q l1 1 H G)) ∧ (¬ ((l1 : Int) = 0) → (wM_read_176 Q l1 H G)))) ∧ (¬ (((H 40 7) : Int) = 0) → (wM_read_176 Q l1 H G)))
def wM_read_153 (Q : Int → e3_H → e3_G → Prop) (k118 : Int → Int → e3_H → e3_G → Prop) (l2 : Int) (s0 : Int) (H : e3_H) (G : e3_G) : Prop :=
  (k118 s0 (e3_w32 (l2 + 1)) H G)
def wM_read_118 (Q : Int → e3_H → e3_G → Prop) : Nat → Int → Int → e3_H → e3_G → Prop
  | 0, _, _, _, _ => False
  | nn + 1, l1, l2, H, G => (((l2 : Int) < (H 40 41) → ((((H 40 7) : Int) = 0 → (((l1 : Int) = 0 → (wM_makes (fun x3 H1 G2 => (((x3 : Int) = 0 → (wM_read_153 Q (fun l1 l2 H G => wM_read_118 Q nn l1 l2 H G) l2 1 H1 G2)) ∧ (¬ ((x3 : Int) = 0) → (wM_read_153 Q (fun l1 l2 H G => wM_read_118 Q nn l1 l2 H G) l2 0 H1 G2)))) l2 l2 0 0 H G)) ∧ (¬ ((l1 : Int) = 0) → (wM_read_160 Q l1 H G)))) ∧ (¬ (((H 40 7) : Int) = 0) → (wM_read_160 Q l1 H G)))) ∧ (¬ ((l2 : Int) < (H 40 41)) → (wM_read_160 Q l1 H G)))
def wM_read_109 (Q : Int → e3_H → e3_G → Prop)  (H : e3_H) (G : e3_G) : Prop :=
  ∀ H1 : e3_H, H1 = e3_up H 40 1 0 → (∃ n, wM_read_118 Q n 0 0 H1 G)
def wM_read_98 (Q : Int → e3_H → e3_G → Prop)  (H : e3_H) (G : e3_G) : Prop :=
  ((((H 40 7) : Int) = 0 → (wM_judge (fun H1 G2 => (wM_read_109 Q H1 G2)) H G)) ∧ (¬ (((H 40 7) : Int) = 0) → (wM_read_109 Q H G)))
def wM_read_79 (Q : Int → e3_H → e3_G → Prop)  (H : e3_H) (G : e3_G) : Prop :=
  ((((H 40 7) : Int) = 0 → ((((H 40 3) : Int) = 0 → (wM_read_98 Q H G)) ∧ (¬ (((H 40 3) : Int) = 0) → (wM_stop (fun H1 G2 => (wM_read_98 Q H1 G2)) 2 H G)))) ∧ (¬ (((H 40 7) : Int) = 0) → (wM_read_98 Q H G)))
def wM_read_57 (Q : Int → e3_H → e3_G → Prop) : Nat → e3_H → e3_G → Prop
  | 0, _, _ => False
  | nn + 1, H, G => ((((H 40 7) : Int) = 0 → (wM_isWord (fun x3 H1 G2 => (((x3 : Int) = 0 → (wM_read_79 Q H1 G2)) ∧ (¬ ((x3 : Int) = 0) → (wM_readFunction (fun H4 G5 => (wM_read_57 Q nn H4 G5)) H1 G2)))) 2 H G)) ∧ (¬ (((H 40 7) : Int) = 0) → (wM_read_79 Q H G)))
def wM_read_34 (Q : Int → e3_H → e3_G → Prop) : Nat → e3_H → e3_G → Prop
  | 0, _, _ => False
  | nn + 1, H, G => ((((H 40 7) : Int) = 0 → (wM_isWord (fun x3 H1 G2 => (((x3 : Int) = 0 → (∃ n, wM_read_57 Q n H1 G2)) ∧ (¬ ((x3 : Int) = 0) → (wM_readKind (fun H4 G5 => (wM_read_34 Q nn H4 G5)) 0 H1 G2)))) 0 H G)) ∧ (¬ (((H 40 7) : Int) = 0) → (∃ n, wM_read_57 Q n H G)))
def wM_read (Q : Int → e3_H → e3_G → Prop)  (H : e3_H) (G : e3_G) : Prop :=
  ((((H 40 9) : Int) = 0 → ∀ H1 : e3_H, H1 = e3_up H 40 10 0 → ∀ H2 : e3_H, H2 = e3_up H1 40 41 0 → ∀ H3 : e3_H, H3 = e3_up H2 40 16 0 → ∀ H4 : e3_H, H4 = e3_up H3 40 11 0 → (wM_beginTape (fun H5 G6 => (∃ n, wM_read_34 Q n H5 G6)) H4 G)) ∧ (¬ (((H 40 9) : Int) = 0) → Q (-2) H G))
set_option maxRecDepth 100000 in
set_option maxHeartbeats 4000000 in
theorem sM_read_229 (L : Nat) (xs : Nat → Int32) (Q : Int → e3_H → e3_G → Prop) (s0 : Int) (H : e3_H) (G : e3_G) (h : wM_read_229 Q s0 H G) : e3_Ev (wB L xs) 11 259 199 229 [(3, 0), (3, 0), (3, 0)] [(0, s0)] H G (e3_q0 Q) := by
  unfold wM_read_229 at h
  exact e3_reti (M := tbM199) rfl rfl rfl ⟨_, rfl, h⟩
set_option maxRecDepth 100000 in
set_option maxHeartbeats 4000000 in
theorem sM_read_202 (L : Nat) (xs : Nat → Int32) (Q : Int → e3_H → e3_G → Prop) (l1 : Int) (l2 : Int) (H : e3_H) (G : e3_G) (h : wM_read_202 Q l1 l2 H G) : e3_Ev (wB L xs) 11 259 199 202 [(2, 40), (0, l1), (0, l2)] [] H G (e3_q0 Q) := by
  unfold wM_read_202 at h
  refine e3_K [0, 2] 206 [(2, 40), (0, l1), (0, l2)] [(0, (H 40 7))] (H) (G) (wZ L xs) (M := tbM199) rfl rfl ⟨trivial, trivial⟩ ?_
  refine e3_br (M := tbM199) rfl rfl rfl Iff.rfl (fun hc => ?_) (fun hc => ?_)
  · replace h := h.1 hc
    refine e3_K [0, 0, 2, 0, 0] 229 [(2, 40), (0, l1), (0, l2)] [(0, (e3_w32 ((-10) - (H 40 8))))] (H) (G) (wZ L xs) (M := tbM199) rfl rfl ⟨trivial, trivial⟩ ?_
    refine e3_fgt [false, false, false] ?_
    exact sM_read_229 L xs Q _ _ _ h
  · replace h := h.2 hc
    refine e3_K [0] 220 [(2, 40), (0, l1), (0, l2)] [(0, l1)] (H) (G) (wZ L xs) (M := tbM199) rfl rfl trivial ?_
    refine e3_br (M := tbM199) rfl rfl rfl Iff.rfl (fun hc => ?_) (fun hc => ?_)
    · replace h := h.1 hc
      refine e3_K [0] 229 [(2, 40), (0, l1), (0, l2)] [(0, l2)] (H) (G) (wZ L xs) (M := tbM199) rfl rfl trivial ?_
      refine e3_fgt [false, false, false] ?_
      exact sM_read_229 L xs Q _ _ _ h
    · replace h := h.2 hc
      refine e3_K [0, 0] 229 [(2, 40), (0, l1), (0, l2)] [(0, (-3))] (H) (G) (wZ L xs) (M := tbM199) rfl rfl trivial ?_
      refine e3_fgt [false, false, false] ?_
      exact sM_read_229 L xs Q _ _ _ h
set_option maxRecDepth 100000 in
set_option maxHeartbeats 4000000 in
theorem sM_read_177 (L : Nat) (xs : Nat → Int32) (Q : Int → e3_H → e3_G → Prop) (l1 : Int) (s0 : Int) (H : e3_H) (G : e3_G) (h : wM_read_177 Q l1 s0 H G) : e3_Ev (wB L xs) 11 259 199 177 [(2, 40), (0, l1), (3, 0)] [(0, s0), (2, 40)] H G (e3_q0 Q) := by
  unfold wM_read_177 at h
  obtain ⟨o2, h⟩ := h
  refine e3_K [2] 180 [(2, 40), (0, l1), (3, 0)] [] (e3_up H 40 9 s0) (G) (wZ L xs) (M := tbM199) rfl rfl ⟨o2, trivial⟩ ?_
  generalize hH1 : (e3_up H 40 9 s0) = H1
  replace h := h H1 hH1.symm
  refine e3_K [0, 2, 0, 0, 2] 189 [(2, 40), (0, l1), (0, (H1 40 41))] [(0, (H1 40 9))] (H1) (G) (wZ L xs) (M := tbM199) rfl rfl ⟨trivial, trivial, trivial⟩ ?_
  refine e3_br (M := tbM199) rfl rfl rfl Iff.rfl (fun hc => ?_) (fun hc => ?_)
  · replace h := h.1 hc
    refine e3_K [0, 0, 2] 197 [(2, 40), (0, l1), (0, (H1 40 41))] [] (e3_up H1 40 10 0) (G) (wZ L xs) (M := tbM199) rfl rfl ⟨trivial, trivial⟩ ?_
    generalize hH3 : (e3_up H1 40 10 0) = H3
    replace h := h H3 hH3.symm
    refine e3_K [0, 0, 2] 202 [(2, 40), (0, l1), (0, (H1 40 41))] [] (e3_up H3 40 41 0) (G) (wZ L xs) (M := tbM199) rfl rfl ⟨trivial, trivial⟩ ?_
    generalize hH4 : (e3_up H3 40 41 0) = H4
    replace h := h H4 hH4.symm
    exact sM_read_202 L xs Q _ _ _ _ h
  · replace h := h.2 hc
    exact sM_read_202 L xs Q _ _ _ _ h
set_option maxRecDepth 100000 in
set_option maxHeartbeats 4000000 in
theorem sM_read_176 (L : Nat) (xs : Nat → Int32) (Q : Int → e3_H → e3_G → Prop) (l1 : Int) (H : e3_H) (G : e3_G) (h : wM_read_176 Q l1 H G) : e3_Ev (wB L xs) 11 259 199 176 [(2, 40), (0, l1), (3, 0)] [(2, 40)] H G (e3_q0 Q) := by
  unfold wM_read_176 at h
  refine e3_K [0] 177 [(2, 40), (0, l1), (3, 0)] [(0, 0), (2, 40)] (H) (G) (wZ L xs) (M := tbM199) rfl rfl trivial ?_
  exact sM_read_177 L xs Q _ _ _ _ h
set_option maxRecDepth 100000 in
set_option maxHeartbeats 4000000 in
theorem sM_read_160 (L : Nat) (xs : Nat → Int32) (Q : Int → e3_H → e3_G → Prop) (l1 : Int) (H : e3_H) (G : e3_G) (h : wM_read_160 Q l1 H G) : e3_Ev (wB L xs) 11 259 199 160 [(2, 40), (0, l1), (3, 0)] [] H G (e3_q0 Q) := by
  unfold wM_read_160 at h
  refine e3_K [0, 0, 2] 165 [(2, 40), (0, l1), (3, 0)] [(0, (H 40 7)), (2, 40)] (H) (G) (wZ L xs) (M := tbM199) rfl rfl ⟨trivial, trivial⟩ ?_
  refine e3_br (M := tbM199) rfl rfl rfl Iff.rfl (fun hc => ?_) (fun hc => ?_)
  · replace h := h.1 hc
    refine e3_K [0] 169 [(2, 40), (0, l1), (3, 0)] [(0, l1), (2, 40)] (H) (G) (wZ L xs) (M := tbM199) rfl rfl trivial ?_
    refine e3_br (M := tbM199) rfl rfl rfl Iff.rfl (fun hc => ?_) (fun hc => ?_)
    · replace h := h.1 hc
      refine e3_K [0, 0] 177 [(2, 40), (0, l1), (3, 0)] [(0, 1), (2, 40)] (H) (G) (wZ L xs) (M := tbM199) rfl rfl trivial ?_
      exact sM_read_177 L xs Q _ _ _ _ h
    · replace h := h.2 hc
      exact sM_read_176 L xs Q _ _ _ h
  · replace h := h.2 hc
    exact sM_read_176 L xs Q _ _ _ h
set_option maxRecDepth 100000 in
set_option maxHeartbeats 4000000 in
theorem sM_read_153 (L : Nat) (xs : Nat → Int32) (Q : Int → e3_H → e3_G → Prop) (k118 : Int → Int → e3_H → e3_G → Prop) (hk118 : ∀ (l1 : Int) (l2 : Int) (H : e3_H) (G : e3_G), k118 l1 l2 H G → e3_Ev (wB L xs) 11 259 199 118 [(2, 40), (0, l1), (0, l2)] [] H G (e3_q0 Q)) (l2 : Int) (s0 : Int) (H : e3_H) (G : e3_G) (h : wM_read_153 Q k118 l2 s0 H G) : e3_Ev (wB L xs) 11 259 199 153 [(2, 40), (3, 0), (0, l2)] [(0, s0)] H G (e3_q0 Q) := by
  unfold wM_read_153 at h
  refine e3_K [0, 0, 0] 118 [(2, 40), (0, s0), (0, (e3_w32 (l2 + 1)))] [] (H) (G) (wZ L xs) (M := tbM199) rfl rfl trivial ?_
  exact hk118 _ _ _ _ h
set_option maxRecDepth 100000 in
set_option maxHeartbeats 4000000 in
theorem sM_read_118 (L : Nat) (xs : Nat → Int32) (Q : Int → e3_H → e3_G → Prop) : ∀ (nl : Nat) (l1 : Int) (l2 : Int) (H : e3_H) (G : e3_G), wM_read_118 Q nl l1 l2 H G → e3_Ev (wB L xs) 11 259 199 118 [(2, 40), (0, l1), (0, l2)] [] H G (e3_q0 Q) := by
  intro nl
  induction nl with
  | zero => intro l1 l2 H G h; exact h.elim
  | succ nn ih =>
    intro l1 l2 H G h
    have h : (((l2 : Int) < (H 40 41) → ((((H 40 7) : Int) = 0 → (((l1 : Int) = 0 → (wM_makes (fun x3 H1 G2 => (((x3 : Int) = 0 → (wM_read_153 Q (fun l1 l2 H G => wM_read_118 Q nn l1 l2 H G) l2 1 H1 G2)) ∧ (¬ ((x3 : Int) = 0) → (wM_read_153 Q (fun l1 l2 H G => wM_read_118 Q nn l1 l2 H G) l2 0 H1 G2)))) l2 l2 0 0 H G)) ∧ (¬ ((l1 : Int) = 0) → (wM_read_160 Q l1 H G)))) ∧ (¬ (((H 40 7) : Int) = 0) → (wM_read_160 Q l1 H G)))) ∧ (¬ ((l2 : Int) < (H 40 41)) → (wM_read_160 Q l1 H G))) := h
    refine e3_K [0, 0, 2] 123 [(2, 40), (0, l1), (0, l2)] [(0, (H 40 41)), (0, l2)] (H) (G) (wZ L xs) (M := tbM199) rfl rfl ⟨trivial, trivial⟩ ?_
    refine e3_br (M := tbM199) rfl rfl rfl Iff.rfl (fun hc => ?_) (fun hc => ?_)
    · replace h := h.1 hc
      refine e3_K [0, 2] 130 [(2, 40), (0, l1), (0, l2)] [(0, (H 40 7))] (H) (G) (wZ L xs) (M := tbM199) rfl rfl ⟨trivial, trivial⟩ ?_
      refine e3_br (M := tbM199) rfl rfl rfl Iff.rfl (fun hc => ?_) (fun hc => ?_)
      · replace h := h.1 hc
        refine e3_K [0] 134 [(2, 40), (0, l1), (0, l2)] [(0, l1)] (H) (G) (wZ L xs) (M := tbM199) rfl rfl trivial ?_
        refine e3_br (M := tbM199) rfl rfl rfl Iff.rfl (fun hc => ?_) (fun hc => ?_)
        · replace h := h.1 hc
          refine e3_K [0, 0, 0, 0, 0] 142 [(2, 40), (0, l1), (0, l2)] [(0, 0), (0, 0), (0, l2), (0, l2), (2, 40)] (H) (G) (wZ L xs) (M := tbM199) rfl rfl trivial ?_
          refine e3_call (o := 0) (k := 242) (M2 := tbM242) (f1 := 5) (w1 := 129) (as := [(2, 40), (0, l2), (0, l2), (0, 0), (0, 0)]) (rest := []) (M := tbM199) rfl rfl rfl trivial (Nat.le_of_ble_eq_true rfl) (Nat.le_of_ble_eq_true rfl) (Nat.le_of_ble_eq_true rfl) ?_
          refine e3_mono (sM_makes L xs _ _ _ _ _ _ _ h) (fun r H1 G2 h => ?_)
          obtain ⟨x3, rfl, h⟩ := h
          change e3_Ev _ _ _ _ 145 [(2, 40), (0, l1), (0, l2)] [(0, x3)] H1 G2 _
          refine e3_br (M := tbM199) rfl rfl rfl Iff.rfl (fun hc => ?_) (fun hc => ?_)
          · replace h := h.1 hc
            refine e3_K [0, 0] 153 [(2, 40), (0, l1), (0, l2)] [(0, 1)] (H1) (G2) (wZ L xs) (M := tbM199) rfl rfl trivial ?_
            refine e3_fgt [true, false, true] ?_
            exact sM_read_153 L xs Q (fun l1 l2 H G => wM_read_118 Q nn l1 l2 H G) ih _ _ _ _ h
          · replace h := h.2 hc
            refine e3_K [0] 153 [(2, 40), (0, l1), (0, l2)] [(0, 0)] (H1) (G2) (wZ L xs) (M := tbM199) rfl rfl trivial ?_
            refine e3_fgt [true, false, true] ?_
            exact sM_read_153 L xs Q (fun l1 l2 H G => wM_read_118 Q nn l1 l2 H G) ih _ _ _ _ h
        · replace h := h.2 hc
          refine e3_fgt [true, true, false] ?_
          exact sM_read_160 L xs Q _ _ _ h
      · replace h := h.2 hc
        refine e3_fgt [true, true, false] ?_
        exact sM_read_160 L xs Q _ _ _ h
    · replace h := h.2 hc
      refine e3_fgt [true, true, false] ?_
      exact sM_read_160 L xs Q _ _ _ h
set_option maxRecDepth 100000 in
set_option maxHeartbeats 4000000 in
theorem sM_read_109 (L : Nat) (xs : Nat → Int32) (Q : Int → e3_H → e3_G → Prop)  (H : e3_H) (G : e3_G) (h : wM_read_109 Q  H G) : e3_Ev (wB L xs) 11 259 199 109 [(2, 40), (3, 0), (3, 0)] [] H G (e3_q0 Q) := by
  unfold wM_read_109 at h
  refine e3_K [0, 0, 2] 114 [(2, 40), (3, 0), (3, 0)] [] (e3_up H 40 1 0) (G) (wZ L xs) (M := tbM199) rfl rfl ⟨trivial, trivial⟩ ?_
  generalize hH1 : (e3_up H 40 1 0) = H1
  replace h := h H1 hH1.symm
  refine e3_K [0, 0, 0, 0] 118 [(2, 40), (0, 0), (0, 0)] [] (H1) (G) (wZ L xs) (M := tbM199) rfl rfl trivial ?_
  obtain ⟨nl, h⟩ := h
  exact sM_read_118 L xs Q nl _ _ _ _ h
set_option maxRecDepth 100000 in
set_option maxHeartbeats 4000000 in
theorem sM_read_98 (L : Nat) (xs : Nat → Int32) (Q : Int → e3_H → e3_G → Prop)  (H : e3_H) (G : e3_G) (h : wM_read_98 Q  H G) : e3_Ev (wB L xs) 11 259 199 98 [(2, 40), (3, 0), (3, 0)] [] H G (e3_q0 Q) := by
  unfold wM_read_98 at h
  refine e3_K [0, 2] 102 [(2, 40), (3, 0), (3, 0)] [(0, (H 40 7))] (H) (G) (wZ L xs) (M := tbM199) rfl rfl ⟨trivial, trivial⟩ ?_
  refine e3_br (M := tbM199) rfl rfl rfl Iff.rfl (fun hc => ?_) (fun hc => ?_)
  · replace h := h.1 hc
    refine e3_K [0] 106 [(2, 40), (3, 0), (3, 0)] [(2, 40)] (H) (G) (wZ L xs) (M := tbM199) rfl rfl trivial ?_
    refine e3_call (o := 0) (k := 240) (M2 := tbM240) (f1 := 2) (w1 := 50) (as := [(2, 40)]) (rest := []) (M := tbM199) rfl rfl rfl trivial (Nat.le_of_ble_eq_true rfl) (Nat.le_of_ble_eq_true rfl) (Nat.le_of_ble_eq_true rfl) ?_
    refine e3_mono (sM_judge L xs _ _ _ h) (fun r H1 G2 h => ?_)
    obtain ⟨rfl, h⟩ := h
    change e3_Ev _ _ _ _ 109 [(2, 40), (3, 0), (3, 0)] [] H1 G2 _
    exact sM_read_109 L xs Q _ _ h
  · replace h := h.2 hc
    exact sM_read_109 L xs Q _ _ h
set_option maxRecDepth 100000 in
set_option maxHeartbeats 4000000 in
theorem sM_read_79 (L : Nat) (xs : Nat → Int32) (Q : Int → e3_H → e3_G → Prop)  (H : e3_H) (G : e3_G) (h : wM_read_79 Q  H G) : e3_Ev (wB L xs) 11 259 199 79 [(2, 40), (3, 0), (3, 0)] [] H G (e3_q0 Q) := by
  unfold wM_read_79 at h
  refine e3_K [0, 2] 83 [(2, 40), (3, 0), (3, 0)] [(0, (H 40 7))] (H) (G) (wZ L xs) (M := tbM199) rfl rfl ⟨trivial, trivial⟩ ?_
  refine e3_br (M := tbM199) rfl rfl rfl Iff.rfl (fun hc => ?_) (fun hc => ?_)
  · replace h := h.1 hc
    refine e3_K [0, 2] 90 [(2, 40), (3, 0), (3, 0)] [(0, (H 40 3))] (H) (G) (wZ L xs) (M := tbM199) rfl rfl ⟨trivial, trivial⟩ ?_
    refine e3_br (M := tbM199) rfl rfl rfl Iff.rfl (fun hc => ?_) (fun hc => ?_)
    · replace h := h.1 hc
      exact sM_read_98 L xs Q _ _ h
    · replace h := h.2 hc
      refine e3_K [0, 0] 95 [(2, 40), (3, 0), (3, 0)] [(0, 2), (2, 40)] (H) (G) (wZ L xs) (M := tbM199) rfl rfl trivial ?_
      refine e3_call (o := 0) (k := 209) (M2 := tbM209) (f1 := 1) (w1 := 22) (as := [(2, 40), (0, 2)]) (rest := []) (M := tbM199) rfl rfl rfl trivial (Nat.le_of_ble_eq_true rfl) (Nat.le_of_ble_eq_true rfl) (Nat.le_of_ble_eq_true rfl) ?_
      refine e3_mono (sM_stop L xs _ _ _ _ h) (fun r H1 G2 h => ?_)
      obtain ⟨rfl, h⟩ := h
      change e3_Ev _ _ _ _ 98 [(2, 40), (3, 0), (3, 0)] [] H1 G2 _
      exact sM_read_98 L xs Q _ _ h
  · replace h := h.2 hc
    exact sM_read_98 L xs Q _ _ h
set_option maxRecDepth 100000 in
set_option maxHeartbeats 4000000 in
theorem sM_read_57 (L : Nat) (xs : Nat → Int32) (Q : Int → e3_H → e3_G → Prop) : ∀ (nl : Nat) (H : e3_H) (G : e3_G), wM_read_57 Q nl  H G → e3_Ev (wB L xs) 11 259 199 57 [(2, 40), (3, 0), (3, 0)] [] H G (e3_q0 Q) := by
  intro nl
  induction nl with
  | zero => intro  H G h; exact h.elim
  | succ nn ih =>
    intro  H G h
    have h : ((((H 40 7) : Int) = 0 → (wM_isWord (fun x3 H1 G2 => (((x3 : Int) = 0 → (wM_read_79 Q H1 G2)) ∧ (¬ ((x3 : Int) = 0) → (wM_readFunction (fun H4 G5 => (wM_read_57 Q nn H4 G5)) H1 G2)))) 2 H G)) ∧ (¬ (((H 40 7) : Int) = 0) → (wM_read_79 Q H G))) := h
    refine e3_K [0, 2] 61 [(2, 40), (3, 0), (3, 0)] [(0, (H 40 7))] (H) (G) (wZ L xs) (M := tbM199) rfl rfl ⟨trivial, trivial⟩ ?_
    refine e3_br (M := tbM199) rfl rfl rfl Iff.rfl (fun hc => ?_) (fun hc => ?_)
    · replace h := h.1 hc
      refine e3_K [0, 0] 66 [(2, 40), (3, 0), (3, 0)] [(0, 2), (2, 40)] (H) (G) (wZ L xs) (M := tbM199) rfl rfl trivial ?_
      refine e3_call (o := 0) (k := 207) (M2 := tbM207) (f1 := 0) (w1 := 0) (as := [(2, 40), (0, 2)]) (rest := []) (M := tbM199) rfl rfl rfl trivial (Nat.le_of_ble_eq_true rfl) (Nat.le_of_ble_eq_true rfl) (Nat.le_of_ble_eq_true rfl) ?_
      refine e3_mono (sM_isWord L xs _ _ _ _ h) (fun r H1 G2 h => ?_)
      obtain ⟨x3, rfl, h⟩ := h
      change e3_Ev _ _ _ _ 69 [(2, 40), (3, 0), (3, 0)] [(0, x3)] H1 G2 _
      refine e3_br (M := tbM199) rfl rfl rfl Iff.rfl (fun hc => ?_) (fun hc => ?_)
      · replace h := h.1 hc
        exact sM_read_79 L xs Q _ _ h
      · replace h := h.2 hc
        refine e3_K [0] 73 [(2, 40), (3, 0), (3, 0)] [(2, 40)] (H1) (G2) (wZ L xs) (M := tbM199) rfl rfl trivial ?_
        refine e3_call (o := 0) (k := 218) (M2 := tbM218) (f1 := 10) (w1 := 236) (as := [(2, 40)]) (rest := []) (M := tbM199) rfl rfl rfl trivial (Nat.le_of_ble_eq_true rfl) (Nat.le_of_ble_eq_true rfl) (Nat.le_of_ble_eq_true rfl) ?_
        refine e3_mono (sM_readFunction L xs _ _ _ h) (fun r H4 G5 h => ?_)
        obtain ⟨rfl, h⟩ := h
        change e3_Ev _ _ _ _ 76 [(2, 40), (3, 0), (3, 0)] [] H4 G5 _
        refine e3_K [0] 57 [(2, 40), (3, 0), (3, 0)] [] (H4) (G5) (wZ L xs) (M := tbM199) rfl rfl trivial ?_
        exact ih _ _ h
    · replace h := h.2 hc
      exact sM_read_79 L xs Q _ _ h
set_option maxRecDepth 100000 in
set_option maxHeartbeats 4000000 in
theorem sM_read_34 (L : Nat) (xs : Nat → Int32) (Q : Int → e3_H → e3_G → Prop) : ∀ (nl : Nat) (H : e3_H) (G : e3_G), wM_read_34 Q nl  H G → e3_Ev (wB L xs) 11 259 199 34 [(2, 40), (3, 0), (3, 0)] [] H G (e3_q0 Q) := by
  intro nl
  induction nl with
  | zero => intro  H G h; exact h.elim
  | succ nn ih =>
    intro  H G h
    have h : ((((H 40 7) : Int) = 0 → (wM_isWord (fun x3 H1 G2 => (((x3 : Int) = 0 → (∃ n, wM_read_57 Q n H1 G2)) ∧ (¬ ((x3 : Int) = 0) → (wM_readKind (fun H4 G5 => (wM_read_34 Q nn H4 G5)) 0 H1 G2)))) 0 H G)) ∧ (¬ (((H 40 7) : Int) = 0) → (∃ n, wM_read_57 Q n H G))) := h
    refine e3_K [0, 2] 38 [(2, 40), (3, 0), (3, 0)] [(0, (H 40 7))] (H) (G) (wZ L xs) (M := tbM199) rfl rfl ⟨trivial, trivial⟩ ?_
    refine e3_br (M := tbM199) rfl rfl rfl Iff.rfl (fun hc => ?_) (fun hc => ?_)
    · replace h := h.1 hc
      refine e3_K [0, 0] 43 [(2, 40), (3, 0), (3, 0)] [(0, 0), (2, 40)] (H) (G) (wZ L xs) (M := tbM199) rfl rfl trivial ?_
      refine e3_call (o := 0) (k := 207) (M2 := tbM207) (f1 := 0) (w1 := 0) (as := [(2, 40), (0, 0)]) (rest := []) (M := tbM199) rfl rfl rfl trivial (Nat.le_of_ble_eq_true rfl) (Nat.le_of_ble_eq_true rfl) (Nat.le_of_ble_eq_true rfl) ?_
      refine e3_mono (sM_isWord L xs _ _ _ _ h) (fun r H1 G2 h => ?_)
      obtain ⟨x3, rfl, h⟩ := h
      change e3_Ev _ _ _ _ 46 [(2, 40), (3, 0), (3, 0)] [(0, x3)] H1 G2 _
      refine e3_br (M := tbM199) rfl rfl rfl Iff.rfl (fun hc => ?_) (fun hc => ?_)
      · replace h := h.1 hc
        obtain ⟨nl, h⟩ := h
        exact sM_read_57 L xs Q nl _ _ h
      · replace h := h.2 hc
        refine e3_K [0, 0] 51 [(2, 40), (3, 0), (3, 0)] [(0, 0), (2, 40)] (H1) (G2) (wZ L xs) (M := tbM199) rfl rfl trivial ?_
        refine e3_call (o := 0) (k := 208) (M2 := tbM208) (f1 := 6) (w1 := 132) (as := [(2, 40), (0, 0)]) (rest := []) (M := tbM199) rfl rfl rfl trivial (Nat.le_of_ble_eq_true rfl) (Nat.le_of_ble_eq_true rfl) (Nat.le_of_ble_eq_true rfl) ?_
        refine e3_mono (sM_readKind L xs _ _ _ _ h) (fun r H4 G5 h => ?_)
        obtain ⟨rfl, h⟩ := h
        change e3_Ev _ _ _ _ 54 [(2, 40), (3, 0), (3, 0)] [] H4 G5 _
        refine e3_K [0] 34 [(2, 40), (3, 0), (3, 0)] [] (H4) (G5) (wZ L xs) (M := tbM199) rfl rfl trivial ?_
        exact ih _ _ h
    · replace h := h.2 hc
      obtain ⟨nl, h⟩ := h
      exact sM_read_57 L xs Q nl _ _ h
set_option maxRecDepth 100000 in
set_option maxHeartbeats 4000000 in
theorem sM_read (L : Nat) (xs : Nat → Int32) (Q : Int → e3_H → e3_G → Prop)  (H : e3_H) (G : e3_G) (h : wM_read Q  H G) : e3_Ev (wB L xs) 11 259 199 0 [(2, 40), (3, 0), (3, 0)] [] H G (e3_q0 Q) := by
  unfold wM_read at h
  refine e3_K [0, 2] 4 [(2, 40), (3, 0), (3, 0)] [(0, (H 40 9))] (H) (G) (wZ L xs) (M := tbM199) rfl rfl ⟨trivial, trivial⟩ ?_
  refine e3_br (M := tbM199) rfl rfl rfl Iff.rfl (fun hc => ?_) (fun hc => ?_)
  · replace h := h.1 hc
    refine e3_K [0, 0, 2] 15 [(2, 40), (3, 0), (3, 0)] [] (e3_up H 40 10 0) (G) (wZ L xs) (M := tbM199) rfl rfl ⟨trivial, trivial⟩ ?_
    generalize hH1 : (e3_up H 40 10 0) = H1
    replace h := h H1 hH1.symm
    refine e3_K [0, 0, 2] 20 [(2, 40), (3, 0), (3, 0)] [] (e3_up H1 40 41 0) (G) (wZ L xs) (M := tbM199) rfl rfl ⟨trivial, trivial⟩ ?_
    generalize hH2 : (e3_up H1 40 41 0) = H2
    replace h := h H2 hH2.symm
    refine e3_K [0, 0, 2] 25 [(2, 40), (3, 0), (3, 0)] [] (e3_up H2 40 16 0) (G) (wZ L xs) (M := tbM199) rfl rfl ⟨trivial, trivial⟩ ?_
    generalize hH3 : (e3_up H2 40 16 0) = H3
    replace h := h H3 hH3.symm
    refine e3_K [0, 0, 2] 30 [(2, 40), (3, 0), (3, 0)] [] (e3_up H3 40 11 0) (G) (wZ L xs) (M := tbM199) rfl rfl ⟨trivial, trivial⟩ ?_
    generalize hH4 : (e3_up H3 40 11 0) = H4
    replace h := h H4 hH4.symm
    refine e3_K [0] 31 [(2, 40), (3, 0), (3, 0)] [(2, 40)] (H4) (G) (wZ L xs) (M := tbM199) rfl rfl trivial ?_
    refine e3_call (o := 0) (k := 200) (M2 := tbM200) (f1 := 4) (w1 := 89) (as := [(2, 40)]) (rest := []) (M := tbM199) rfl rfl rfl trivial (Nat.le_of_ble_eq_true rfl) (Nat.le_of_ble_eq_true rfl) (Nat.le_of_ble_eq_true rfl) ?_
    refine e3_mono (sM_beginTape L xs _ _ _ h) (fun r H5 G6 h => ?_)
    obtain ⟨rfl, h⟩ := h
    change e3_Ev _ _ _ _ 34 [(2, 40), (3, 0), (3, 0)] [] H5 G6 _
    obtain ⟨nl, h⟩ := h
    exact sM_read_34 L xs Q nl _ _ h
  · replace h := h.2 hc
    refine e3_K [0] 9 [(2, 40), (3, 0), (3, 0)] [(0, (-2))] (H) (G) (wZ L xs) (M := tbM199) rfl rfl trivial ?_
    exact e3_reti (M := tbM199) rfl rfl rfl ⟨_, rfl, h⟩
/-- LetterPostModel.fault()I -/
def wM_fault (Q : Int → e3_H → e3_G → Prop)  (H : e3_H) (G : e3_G) : Prop :=
  Q (H 40 7) H G
set_option maxRecDepth 100000 in
set_option maxHeartbeats 4000000 in
theorem sM_fault (L : Nat) (xs : Nat → Int32) (Q : Int → e3_H → e3_G → Prop)  (H : e3_H) (G : e3_G) (h : wM_fault Q  H G) : e3_Ev (wB L xs) 0 0 261 0 [(2, 40)] [] H G (e3_q0 Q) := by
  unfold wM_fault at h
  refine e3_K [0, 2] 4 [(2, 40)] [(0, (H 40 7))] (H) (G) (wZ L xs) (M := tbM261) rfl rfl ⟨trivial, trivial⟩ ?_
  exact e3_reti (M := tbM261) rfl rfl rfl ⟨_, rfl, h⟩
/-- LetterPostModel.add()I -/
def wM_add_59 (Q : Int → e3_H → e3_G → Prop) (l1 : Int) (H : e3_H) (G : e3_G) : Prop :=
  ∀ H1 : e3_H, H1 = e3_up H 40 1 0 → (((0 : Int) < (H1 40 7) → ∀ H2 : e3_H, H2 = e3_up H1 40 10 l1 → Q (e3_w32 ((-10) - (H2 40 8))) H2 G) ∧ (¬ ((0 : Int) < (H1 40 7)) → ∀ H3 : e3_H, H3 = e3_up H1 40 11 (e3_w32 ((H1 40 11) + 1)) → Q l1 H3 G))
def wM_add_40 (Q : Int → e3_H → e3_G → Prop) (l1 : Int) (H : e3_H) (G : e3_G) : Prop :=
  ((((H 40 7) : Int) = 0 → ((((H 40 3) : Int) = 0 → (wM_add_59 Q l1 H G)) ∧ (¬ (((H 40 3) : Int) = 0) → (wM_stop (fun H1 G2 => (wM_add_59 Q l1 H1 G2)) 2 H G)))) ∧ (¬ (((H 40 7) : Int) = 0) → (wM_add_59 Q l1 H G)))
def wM_add (Q : Int → e3_H → e3_G → Prop)  (H : e3_H) (G : e3_G) : Prop :=
  ((((H 40 9) : Int) = 0 → Q (-2) H G) ∧ (¬ (((H 40 9) : Int) = 0) → (wM_beginTape (fun H1 G2 => (wM_isWord (fun x6 H4 G5 => (((x6 : Int) = 0 → (wM_stop (fun H7 G8 => (wM_add_40 Q (H 40 10) H7 G8)) 2 H4 G5)) ∧ (¬ ((x6 : Int) = 0) → (wM_readKind (fun H10 G11 => (wM_add_40 Q (H 40 10) H10 G11)) 1 H4 G5)))) 0 H1 G2)) H G)))
set_option maxRecDepth 100000 in
set_option maxHeartbeats 4000000 in
theorem sM_add_59 (L : Nat) (xs : Nat → Int32) (Q : Int → e3_H → e3_G → Prop) (l1 : Int) (H : e3_H) (G : e3_G) (h : wM_add_59 Q l1 H G) : e3_Ev (wB L xs) 7 156 262 59 [(2, 40), (0, l1)] [] H G (e3_q0 Q) := by
  unfold wM_add_59 at h
  refine e3_K [0, 0, 2] 64 [(2, 40), (0, l1)] [] (e3_up H 40 1 0) (G) (wZ L xs) (M := tbM262) rfl rfl ⟨trivial, trivial⟩ ?_
  generalize hH1 : (e3_up H 40 1 0) = H1
  replace h := h H1 hH1.symm
  refine e3_K [0, 2] 68 [(2, 40), (0, l1)] [(0, (H1 40 7))] (H1) (G) (wZ L xs) (M := tbM262) rfl rfl ⟨trivial, trivial⟩ ?_
  refine e3_br (M := tbM262) rfl rfl rfl Iff.rfl (fun hc => ?_) (fun hc => ?_)
  · replace h := h.1 hc
    refine e3_K [0, 0, 2] 76 [(2, 40), (0, l1)] [] (e3_up H1 40 10 l1) (G) (wZ L xs) (M := tbM262) rfl rfl ⟨trivial, trivial⟩ ?_
    generalize hH2 : (e3_up H1 40 10 l1) = H2
    replace h := h H2 hH2.symm
    refine e3_K [0, 0, 2, 0] 83 [(2, 40), (0, l1)] [(0, (e3_w32 ((-10) - (H2 40 8))))] (H2) (G) (wZ L xs) (M := tbM262) rfl rfl ⟨trivial, trivial⟩ ?_
    exact e3_reti (M := tbM262) rfl rfl rfl ⟨_, rfl, h⟩
  · replace h := h.2 hc
    refine e3_K [0, 0, 2, 0, 0, 2] 94 [(2, 40), (0, l1)] [] (e3_up H1 40 11 (e3_w32 ((H1 40 11) + 1))) (G) (wZ L xs) (M := tbM262) rfl rfl ⟨trivial, trivial, trivial⟩ ?_
    generalize hH3 : (e3_up H1 40 11 (e3_w32 ((H1 40 11) + 1))) = H3
    replace h := h H3 hH3.symm
    refine e3_K [0] 95 [(2, 40), (0, l1)] [(0, l1)] (H3) (G) (wZ L xs) (M := tbM262) rfl rfl trivial ?_
    exact e3_reti (M := tbM262) rfl rfl rfl ⟨_, rfl, h⟩
set_option maxRecDepth 100000 in
set_option maxHeartbeats 4000000 in
theorem sM_add_40 (L : Nat) (xs : Nat → Int32) (Q : Int → e3_H → e3_G → Prop) (l1 : Int) (H : e3_H) (G : e3_G) (h : wM_add_40 Q l1 H G) : e3_Ev (wB L xs) 7 156 262 40 [(2, 40), (0, l1)] [] H G (e3_q0 Q) := by
  unfold wM_add_40 at h
  refine e3_K [0, 2] 44 [(2, 40), (0, l1)] [(0, (H 40 7))] (H) (G) (wZ L xs) (M := tbM262) rfl rfl ⟨trivial, trivial⟩ ?_
  refine e3_br (M := tbM262) rfl rfl rfl Iff.rfl (fun hc => ?_) (fun hc => ?_)
  · replace h := h.1 hc
    refine e3_K [0, 2] 51 [(2, 40), (0, l1)] [(0, (H 40 3))] (H) (G) (wZ L xs) (M := tbM262) rfl rfl ⟨trivial, trivial⟩ ?_
    refine e3_br (M := tbM262) rfl rfl rfl Iff.rfl (fun hc => ?_) (fun hc => ?_)
    · replace h := h.1 hc
      exact sM_add_59 L xs Q _ _ _ h
    · replace h := h.2 hc
      refine e3_K [0, 0] 56 [(2, 40), (0, l1)] [(0, 2), (2, 40)] (H) (G) (wZ L xs) (M := tbM262) rfl rfl trivial ?_
      refine e3_call (o := 0) (k := 209) (M2 := tbM209) (f1 := 1) (w1 := 22) (as := [(2, 40), (0, 2)]) (rest := []) (M := tbM262) rfl rfl rfl trivial (Nat.le_of_ble_eq_true rfl) (Nat.le_of_ble_eq_true rfl) (Nat.le_of_ble_eq_true rfl) ?_
      refine e3_mono (sM_stop L xs _ _ _ _ h) (fun r H1 G2 h => ?_)
      obtain ⟨rfl, h⟩ := h
      change e3_Ev _ _ _ _ 59 [(2, 40), (0, l1)] [] H1 G2 _
      exact sM_add_59 L xs Q _ _ _ h
  · replace h := h.2 hc
    exact sM_add_59 L xs Q _ _ _ h
set_option maxRecDepth 100000 in
set_option maxHeartbeats 4000000 in
theorem sM_add (L : Nat) (xs : Nat → Int32) (Q : Int → e3_H → e3_G → Prop)  (H : e3_H) (G : e3_G) (h : wM_add Q  H G) : e3_Ev (wB L xs) 7 156 262 0 [(2, 40), (3, 0)] [] H G (e3_q0 Q) := by
  unfold wM_add at h
  refine e3_K [0, 2] 4 [(2, 40), (3, 0)] [(0, (H 40 9))] (H) (G) (wZ L xs) (M := tbM262) rfl rfl ⟨trivial, trivial⟩ ?_
  refine e3_br (M := tbM262) rfl rfl rfl Iff.rfl (fun hc => ?_) (fun hc => ?_)
  · replace h := h.1 hc
    refine e3_K [0] 9 [(2, 40), (3, 0)] [(0, (-2))] (H) (G) (wZ L xs) (M := tbM262) rfl rfl trivial ?_
    exact e3_reti (M := tbM262) rfl rfl rfl ⟨_, rfl, h⟩
  · replace h := h.2 hc
    refine e3_K [0, 2, 0, 0] 16 [(2, 40), (0, (H 40 10))] [(2, 40)] (H) (G) (wZ L xs) (M := tbM262) rfl rfl ⟨trivial, trivial⟩ ?_
    refine e3_call (o := 0) (k := 200) (M2 := tbM200) (f1 := 4) (w1 := 89) (as := [(2, 40)]) (rest := []) (M := tbM262) rfl rfl rfl trivial (Nat.le_of_ble_eq_true rfl) (Nat.le_of_ble_eq_true rfl) (Nat.le_of_ble_eq_true rfl) ?_
    refine e3_mono (sM_beginTape L xs _ _ _ h) (fun r H1 G2 h => ?_)
    obtain ⟨rfl, h⟩ := h
    change e3_Ev _ _ _ _ 19 [(2, 40), (0, (H 40 10))] [] H1 G2 _
    refine e3_K [0, 0] 21 [(2, 40), (0, (H 40 10))] [(0, 0), (2, 40)] (H1) (G2) (wZ L xs) (M := tbM262) rfl rfl trivial ?_
    refine e3_call (o := 0) (k := 207) (M2 := tbM207) (f1 := 0) (w1 := 0) (as := [(2, 40), (0, 0)]) (rest := []) (M := tbM262) rfl rfl rfl trivial (Nat.le_of_ble_eq_true rfl) (Nat.le_of_ble_eq_true rfl) (Nat.le_of_ble_eq_true rfl) ?_
    refine e3_mono (sM_isWord L xs _ _ _ _ h) (fun r H4 G5 h => ?_)
    obtain ⟨x6, rfl, h⟩ := h
    change e3_Ev _ _ _ _ 24 [(2, 40), (0, (H 40 10))] [(0, x6)] H4 G5 _
    refine e3_br (M := tbM262) rfl rfl rfl Iff.rfl (fun hc => ?_) (fun hc => ?_)
    · replace h := h.1 hc
      refine e3_K [0, 0] 37 [(2, 40), (0, (H 40 10))] [(0, 2), (2, 40)] (H4) (G5) (wZ L xs) (M := tbM262) rfl rfl trivial ?_
      refine e3_call (o := 0) (k := 209) (M2 := tbM209) (f1 := 1) (w1 := 22) (as := [(2, 40), (0, 2)]) (rest := []) (M := tbM262) rfl rfl rfl trivial (Nat.le_of_ble_eq_true rfl) (Nat.le_of_ble_eq_true rfl) (Nat.le_of_ble_eq_true rfl) ?_
      refine e3_mono (sM_stop L xs _ _ _ _ h) (fun r H7 G8 h => ?_)
      obtain ⟨rfl, h⟩ := h
      change e3_Ev _ _ _ _ 40 [(2, 40), (0, (H 40 10))] [] H7 G8 _
      exact sM_add_40 L xs Q _ _ _ h
    · replace h := h.2 hc
      refine e3_K [0, 0] 29 [(2, 40), (0, (H 40 10))] [(0, 1), (2, 40)] (H4) (G5) (wZ L xs) (M := tbM262) rfl rfl trivial ?_
      refine e3_call (o := 0) (k := 208) (M2 := tbM208) (f1 := 6) (w1 := 132) (as := [(2, 40), (0, 1)]) (rest := []) (M := tbM262) rfl rfl rfl trivial (Nat.le_of_ble_eq_true rfl) (Nat.le_of_ble_eq_true rfl) (Nat.le_of_ble_eq_true rfl) ?_
      refine e3_mono (sM_readKind L xs _ _ _ _ h) (fun r H10 G11 h => ?_)
      obtain ⟨rfl, h⟩ := h
      change e3_Ev _ _ _ _ 32 [(2, 40), (0, (H 40 10))] [] H10 G11 _
      refine e3_K [0] 40 [(2, 40), (0, (H 40 10))] [] (H10) (G11) (wZ L xs) (M := tbM262) rfl rfl trivial ?_
      exact sM_add_40 L xs Q _ _ _ h
/-- LetterPostModel.isFunction(I)Z -/
def wM_isFunction (Q : Int → e3_H → e3_G → Prop) (l1 : Int) (H : e3_H) (G : e3_G) : Prop :=
  (wM_in (fun x3 H1 G2 => ((x3 : Int) = 0 ∨ x3 = 1) ∧ Q x3 H1 G2) l1 0 (e3_w32 ((H 40 41) - 1)) H G)
set_option maxRecDepth 100000 in
set_option maxHeartbeats 4000000 in
theorem sM_isFunction (L : Nat) (xs : Nat → Int32) (Q : Int → e3_H → e3_G → Prop) (l1 : Int) (H : e3_H) (G : e3_G) (h : wM_isFunction Q l1 H G) : e3_Ev (wB L xs) 1 25 264 0 [(2, 40), (0, l1)] [] H G (e3_q0 Q) := by
  unfold wM_isFunction at h
  refine e3_K [0, 0, 0, 0, 2, 0, 0, 0] 10 [(2, 40), (0, l1)] [(1, (e3_w32 ((H 40 41) - 1))), (1, 0), (1, l1)] (H) (G) (wZ L xs) (M := tbM264) rfl rfl ⟨trivial, trivial⟩ ?_
  refine e3_call (o := 0) (k := 198) (M2 := tbM198) (f1 := 0) (w1 := 0) (as := [(1, l1), (1, 0), (1, (e3_w32 ((H 40 41) - 1)))]) (rest := []) (M := tbM264) rfl rfl rfl trivial (Nat.le_of_ble_eq_true rfl) (Nat.le_of_ble_eq_true rfl) (Nat.le_of_ble_eq_true rfl) ?_
  refine e3_mono (sM_in L xs _ _ _ _ _ _ h) (fun r H1 G2 h => ?_)
  obtain ⟨x3, rfl, h⟩ := h
  change e3_Ev _ _ _ _ 13 [(2, 40), (0, l1)] [(0, x3)] H1 G2 _
  exact e3_retb (M := tbM264) rfl rfl rfl h.1 ⟨_, rfl, h.2⟩
/-- LetterPostModel.moved(II)I -/
def wM_moved_14 (Q : Int → e3_H → e3_G → Prop) (s0 : Int) (H : e3_H) (G : e3_G) : Prop :=
  Q s0 H G
def wM_moved (Q : Int → e3_H → e3_G → Prop) (l0 : Int) (l1 : Int) (H : e3_H) (G : e3_G) : Prop :=
  (((l0 : Int) = (-4) → (wM_moved_14 Q (-4) H G)) ∧ (¬ ((l0 : Int) = (-4)) → (wM_moved_14 Q (e3_w32 (l0 + l1)) H G)))
set_option maxRecDepth 100000 in
set_option maxHeartbeats 4000000 in
theorem sM_moved_14 (L : Nat) (xs : Nat → Int32) (Q : Int → e3_H → e3_G → Prop) (s0 : Int) (H : e3_H) (G : e3_G) (h : wM_moved_14 Q s0 H G) : e3_Ev (wB L xs) 0 0 265 14 [(3, 0), (3, 0)] [(0, s0)] H G (e3_q0 Q) := by
  unfold wM_moved_14 at h
  exact e3_reti (M := tbM265) rfl rfl rfl ⟨_, rfl, h⟩
set_option maxRecDepth 100000 in
set_option maxHeartbeats 4000000 in
theorem sM_moved (L : Nat) (xs : Nat → Int32) (Q : Int → e3_H → e3_G → Prop) (l0 : Int) (l1 : Int) (H : e3_H) (G : e3_G) (h : wM_moved Q l0 l1 H G) : e3_Ev (wB L xs) 0 0 265 0 [(0, l0), (0, l1)] [] H G (e3_q0 Q) := by
  unfold wM_moved at h
  refine e3_K [0, 0] 3 [(0, l0), (0, l1)] [(0, (-4)), (0, l0)] (H) (G) (wZ L xs) (M := tbM265) rfl rfl trivial ?_
  refine e3_br (M := tbM265) rfl rfl rfl Iff.rfl (fun hc => ?_) (fun hc => ?_)
  · replace h := h.1 hc
    refine e3_K [0, 0] 14 [(0, l0), (0, l1)] [(0, (-4))] (H) (G) (wZ L xs) (M := tbM265) rfl rfl trivial ?_
    refine e3_fgt [false, false] ?_
    exact sM_moved_14 L xs Q _ _ _ h
  · replace h := h.2 hc
    refine e3_K [0, 0, 0] 14 [(0, l0), (0, l1)] [(0, (e3_w32 (l0 + l1)))] (H) (G) (wZ L xs) (M := tbM265) rfl rfl trivial ?_
    refine e3_fgt [false, false] ?_
    exact sM_moved_14 L xs Q _ _ _ h
/-- LetterPostModel.remake(II)I -/
def wM_remake_20 (Q : Int → e3_H → e3_G → Prop)  (H : e3_H) (G : e3_G) : Prop :=
  Q (-1) H G
def wM_remake_49 (Q : Int → e3_H → e3_G → Prop) : Nat → Int → Int → Int → Int → e3_H → e3_G → Prop
  | 0, _, _, _, _, _, _ => False
  | nn + 1, l1, l2, l3, l4, H, G => (((l4 : Int) < (H 99 12) → ((0 : Int) ≤ (e3_w32 (3600 + l4)) ∧ ((e3_w32 (3600 + l4)) : Int) < 3900) ∧ ((0 : Int) ≤ (e3_w32 ((e3_w32 (3600 + l4)) + l3)) ∧ ((e3_w32 ((e3_w32 (3600 + l4)) + l3)) : Int) < 3900) ∧ ∀ H1 : e3_H, H1 = e3_up H 102 (e3_w32 ((e3_w32 (3600 + l4)) + l3)) (H 102 (e3_w32 (3600 + l4))) → ((0 : Int) ≤ (e3_w32 (3600 + l4)) ∧ ((e3_w32 (3600 + l4)) : Int) < 3900) ∧ ((0 : Int) ≤ (e3_w32 ((e3_w32 (3600 + l4)) + l3)) ∧ ((e3_w32 ((e3_w32 (3600 + l4)) + l3)) : Int) < 3900) ∧ ∀ H4 : e3_H, H4 = e3_up H1 103 (e3_w32 ((e3_w32 (3600 + l4)) + l3)) (H1 103 (e3_w32 (3600 + l4))) → ((0 : Int) ≤ (e3_w32 (3600 + l4)) ∧ ((e3_w32 (3600 + l4)) : Int) < 3900) ∧ ((0 : Int) ≤ (e3_w32 ((e3_w32 (3600 + l4)) + l3)) ∧ ((e3_w32 ((e3_w32 (3600 + l4)) + l3)) : Int) < 3900) ∧ ∀ H7 : e3_H, H7 = e3_up H4 104 (e3_w32 ((e3_w32 (3600 + l4)) + l3)) (H4 104 (e3_w32 (3600 + l4))) → ((0 : Int) ≤ (e3_w32 (3600 + l4)) ∧ ((e3_w32 (3600 + l4)) : Int) < 3900) ∧ ((0 : Int) ≤ (e3_w32 ((e3_w32 (3600 + l4)) + l3)) ∧ ((e3_w32 ((e3_w32 (3600 + l4)) + l3)) : Int) < 3900) ∧ ∀ H10 : e3_H, H10 = e3_up H7 105 (e3_w32 ((e3_w32 (3600 + l4)) + l3)) (H7 105 (e3_w32 (3600 + l4))) → ((0 : Int) ≤ (e3_w32 (3600 + l4)) ∧ ((e3_w32 (3600 + l4)) : Int) < 3900) ∧ ((0 : Int) ≤ (e3_w32 ((e3_w32 (3600 + l4)) + l3)) ∧ ((e3_w32 ((e3_w32 (3600 + l4)) + l3)) : Int) < 3900) ∧ ∀ H13 : e3_H, H13 = e3_up H10 106 (e3_w32 ((e3_w32 (3600 + l4)) + l3)) (H10 106 (e3_w32 (3600 + l4))) → ((0 : Int) ≤ (e3_w32 (3600 + l4)) ∧ ((e3_w32 (3600 + l4)) : Int) < 3900) ∧ (wM_moved (fun x19 H17 G18 => ((0 : Int) ≤ (e3_w32 ((e3_w32 (3600 + l4)) + l3)) ∧ ((e3_w32 ((e3_w32 (3600 + l4)) + l3)) : Int) < 3900) ∧ ∀ H20 : e3_H, H20 = e3_up H17 107 (e3_w32 ((e3_w32 (3600 + l4)) + l3)) x19 → ((0 : Int) ≤ (e3_w32 (3600 + l4)) ∧ ((e3_w32 (3600 + l4)) : Int) < 3900) ∧ (wM_moved (fun x25 H23 G24 => ((0 : Int) ≤ (e3_w32 ((e3_w32 (3600 + l4)) + l3)) ∧ ((e3_w32 ((e3_w32 (3600 + l4)) + l3)) : Int) < 3900) ∧ ∀ H26 : e3_H, H26 = e3_up H23 108 (e3_w32 ((e3_w32 (3600 + l4)) + l3)) x25 → ((0 : Int) ≤ (e3_w32 (3600 + l4)) ∧ ((e3_w32 (3600 + l4)) : Int) < 3900) ∧ (wM_moved (fun x31 H29 G30 => ((0 : Int) ≤ (e3_w32 ((e3_w32 (3600 + l4)) + l3)) ∧ ((e3_w32 ((e3_w32 (3600 + l4)) + l3)) : Int) < 3900) ∧ ∀ H32 : e3_H, H32 = e3_up H29 110 (e3_w32 ((e3_w32 (3600 + l4)) + l3)) x31 → ((0 : Int) ≤ (e3_w32 (3600 + l4)) ∧ ((e3_w32 (3600 + l4)) : Int) < 3900) ∧ ((0 : Int) ≤ (e3_w32 ((e3_w32 (3600 + l4)) + l3)) ∧ ((e3_w32 ((e3_w32 (3600 + l4)) + l3)) : Int) < 3900) ∧ ∀ H34 : e3_H, H34 = e3_up H32 111 (e3_w32 ((e3_w32 (3600 + l4)) + l3)) (H32 111 (e3_w32 (3600 + l4))) → ((0 : Int) ≤ (e3_w32 (3600 + l4)) ∧ ((e3_w32 (3600 + l4)) : Int) < 3900) ∧ ((0 : Int) ≤ (e3_w32 ((e3_w32 (3600 + l4)) + l3)) ∧ ((e3_w32 ((e3_w32 (3600 + l4)) + l3)) : Int) < 3900) ∧ ∀ H37 : e3_H, H37 = e3_up H34 112 (e3_w32 ((e3_w32 (3600 + l4)) + l3)) (H34 112 (e3_w32 (3600 + l4))) → ((0 : Int) ≤ (e3_w32 (3600 + l4)) ∧ ((e3_w32 (3600 + l4)) : Int) < 3900) ∧ ((0 : Int) ≤ (e3_w32 ((e3_w32 (3600 + l4)) + l3)) ∧ ((e3_w32 ((e3_w32 (3600 + l4)) + l3)) : Int) < 3900) ∧ ∀ H40 : e3_H, H40 = e3_up H37 113 (e3_w32 ((e3_w32 (3600 + l4)) + l3)) (H37 113 (e3_w32 (3600 + l4))) → ((0 : Int) ≤ (e3_w32 (3600 + l4)) ∧ ((e3_w32 (3600 + l4)) : Int) < 3900) ∧ ((0 : Int) ≤ (e3_w32 ((e3_w32 (3600 + l4)) + l3)) ∧ ((e3_w32 ((e3_w32 (3600 + l4)) + l3)) : Int) < 3900) ∧ ∀ H43 : e3_H, H43 = e3_up H40 114 (e3_w32 ((e3_w32 (3600 + l4)) + l3)) (e3_and (H40 114 (e3_w32 (3600 + l4))) 1) → (wM_remake_49 Q nn l1 l2 l3 (e3_w32 (l4 + 1)) H43 G30)) (H26 110 (e3_w32 (3600 + l4))) l3 H26 G24)) (H20 108 (e3_w32 (3600 + l4))) l3 H20 G18)) (H13 107 (e3_w32 (3600 + l4))) l3 H13 G)) ∧ (¬ ((l4 : Int) < (H 99 12)) → ((0 : Int) ≤ l1 ∧ (l1 : Int) < 13) ∧ ∀ H46 : e3_H, H46 = e3_up H 99 l1 (H 99 12) → ((0 : Int) ≤ l1 ∧ (l1 : Int) < 13) ∧ ∀ H48 : e3_H, H48 = e3_up H46 100 l1 l2 → ((0 : Int) ≤ l1 ∧ (l1 : Int) < 13) ∧ ∀ H50 : e3_H, H50 = e3_up H48 101 l1 (H48 40 10) → ((0 : Int) ≤ l1 ∧ (l1 : Int) < 13) ∧ Q (H50 99 l1) H50 G))
def wM_remake (Q : Int → e3_H → e3_G → Prop) (l1 : Int) (l2 : Int) (H : e3_H) (G : e3_G) : Prop :=
  (wM_isFunction (fun x3 H1 G2 => (((x3 : Int) = 0 → (wM_remake_20 Q H1 G2)) ∧ (¬ ((x3 : Int) = 0) → (wM_in (fun x6 H4 G5 => (((x6 : Int) = 0 → (wM_remake_20 Q H4 G5)) ∧ (¬ ((x6 : Int) = 0) → (wM_makes (fun x9 H7 G8 => (((x9 : Int) = 0 → Q (-3) H7 G8) ∧ (¬ ((x9 : Int) = 0) → (∃ n, wM_remake_49 Q n l1 l2 (e3_w32 (300 * (e3_w32 (l1 - 12)))) 0 H7 G8)))) 12 l1 l2 0 H4 G5)))) l2 0 3 H1 G2)))) l1 H G)
set_option maxRecDepth 100000 in
set_option maxHeartbeats 4000000 in
theorem sM_remake_20 (L : Nat) (xs : Nat → Int32) (Q : Int → e3_H → e3_G → Prop)  (H : e3_H) (G : e3_G) (h : wM_remake_20 Q  H G) : e3_Ev (wB L xs) 6 157 263 20 [(3, 0), (3, 0), (3, 0), (3, 0), (3, 0), (3, 0), (3, 0)] [] H G (e3_q0 Q) := by
  unfold wM_remake_20 at h
  refine e3_K [0] 21 [(3, 0), (3, 0), (3, 0), (3, 0), (3, 0), (3, 0), (3, 0)] [(0, (-1))] (H) (G) (wZ L xs) (M := tbM263) rfl rfl trivial ?_
  exact e3_reti (M := tbM263) rfl rfl rfl ⟨_, rfl, h⟩
set_option maxRecDepth 100000 in
set_option maxHeartbeats 4000000 in
theorem sM_remake_49 (L : Nat) (xs : Nat → Int32) (Q : Int → e3_H → e3_G → Prop) : ∀ (nl : Nat) (l1 : Int) (l2 : Int) (l3 : Int) (l4 : Int) (H : e3_H) (G : e3_G), wM_remake_49 Q nl l1 l2 l3 l4 H G → e3_Ev (wB L xs) 6 157 263 49 [(2, 40), (0, l1), (0, l2), (0, l3), (0, l4), (3, 0), (3, 0)] [] H G (e3_q0 Q) := by
  intro nl
  induction nl with
  | zero => intro l1 l2 l3 l4 H G h; exact h.elim
  | succ nn ih =>
    intro l1 l2 l3 l4 H G h
    have h : (((l4 : Int) < (H 99 12) → ((0 : Int) ≤ (e3_w32 (3600 + l4)) ∧ ((e3_w32 (3600 + l4)) : Int) < 3900) ∧ ((0 : Int) ≤ (e3_w32 ((e3_w32 (3600 + l4)) + l3)) ∧ ((e3_w32 ((e3_w32 (3600 + l4)) + l3)) : Int) < 3900) ∧ ∀ H1 : e3_H, H1 = e3_up H 102 (e3_w32 ((e3_w32 (3600 + l4)) + l3)) (H 102 (e3_w32 (3600 + l4))) → ((0 : Int) ≤ (e3_w32 (3600 + l4)) ∧ ((e3_w32 (3600 + l4)) : Int) < 3900) ∧ ((0 : Int) ≤ (e3_w32 ((e3_w32 (3600 + l4)) + l3)) ∧ ((e3_w32 ((e3_w32 (3600 + l4)) + l3)) : Int) < 3900) ∧ ∀ H4 : e3_H, H4 = e3_up H1 103 (e3_w32 ((e3_w32 (3600 + l4)) + l3)) (H1 103 (e3_w32 (3600 + l4))) → ((0 : Int) ≤ (e3_w32 (3600 + l4)) ∧ ((e3_w32 (3600 + l4)) : Int) < 3900) ∧ ((0 : Int) ≤ (e3_w32 ((e3_w32 (3600 + l4)) + l3)) ∧ ((e3_w32 ((e3_w32 (3600 + l4)) + l3)) : Int) < 3900) ∧ ∀ H7 : e3_H, H7 = e3_up H4 104 (e3_w32 ((e3_w32 (3600 + l4)) + l3)) (H4 104 (e3_w32 (3600 + l4))) → ((0 : Int) ≤ (e3_w32 (3600 + l4)) ∧ ((e3_w32 (3600 + l4)) : Int) < 3900) ∧ ((0 : Int) ≤ (e3_w32 ((e3_w32 (3600 + l4)) + l3)) ∧ ((e3_w32 ((e3_w32 (3600 + l4)) + l3)) : Int) < 3900) ∧ ∀ H10 : e3_H, H10 = e3_up H7 105 (e3_w32 ((e3_w32 (3600 + l4)) + l3)) (H7 105 (e3_w32 (3600 + l4))) → ((0 : Int) ≤ (e3_w32 (3600 + l4)) ∧ ((e3_w32 (3600 + l4)) : Int) < 3900) ∧ ((0 : Int) ≤ (e3_w32 ((e3_w32 (3600 + l4)) + l3)) ∧ ((e3_w32 ((e3_w32 (3600 + l4)) + l3)) : Int) < 3900) ∧ ∀ H13 : e3_H, H13 = e3_up H10 106 (e3_w32 ((e3_w32 (3600 + l4)) + l3)) (H10 106 (e3_w32 (3600 + l4))) → ((0 : Int) ≤ (e3_w32 (3600 + l4)) ∧ ((e3_w32 (3600 + l4)) : Int) < 3900) ∧ (wM_moved (fun x19 H17 G18 => ((0 : Int) ≤ (e3_w32 ((e3_w32 (3600 + l4)) + l3)) ∧ ((e3_w32 ((e3_w32 (3600 + l4)) + l3)) : Int) < 3900) ∧ ∀ H20 : e3_H, H20 = e3_up H17 107 (e3_w32 ((e3_w32 (3600 + l4)) + l3)) x19 → ((0 : Int) ≤ (e3_w32 (3600 + l4)) ∧ ((e3_w32 (3600 + l4)) : Int) < 3900) ∧ (wM_moved (fun x25 H23 G24 => ((0 : Int) ≤ (e3_w32 ((e3_w32 (3600 + l4)) + l3)) ∧ ((e3_w32 ((e3_w32 (3600 + l4)) + l3)) : Int) < 3900) ∧ ∀ H26 : e3_H, H26 = e3_up H23 108 (e3_w32 ((e3_w32 (3600 + l4)) + l3)) x25 → ((0 : Int) ≤ (e3_w32 (3600 + l4)) ∧ ((e3_w32 (3600 + l4)) : Int) < 3900) ∧ (wM_moved (fun x31 H29 G30 => ((0 : Int) ≤ (e3_w32 ((e3_w32 (3600 + l4)) + l3)) ∧ ((e3_w32 ((e3_w32 (3600 + l4)) + l3)) : Int) < 3900) ∧ ∀ H32 : e3_H, H32 = e3_up H29 110 (e3_w32 ((e3_w32 (3600 + l4)) + l3)) x31 → ((0 : Int) ≤ (e3_w32 (3600 + l4)) ∧ ((e3_w32 (3600 + l4)) : Int) < 3900) ∧ ((0 : Int) ≤ (e3_w32 ((e3_w32 (3600 + l4)) + l3)) ∧ ((e3_w32 ((e3_w32 (3600 + l4)) + l3)) : Int) < 3900) ∧ ∀ H34 : e3_H, H34 = e3_up H32 111 (e3_w32 ((e3_w32 (3600 + l4)) + l3)) (H32 111 (e3_w32 (3600 + l4))) → ((0 : Int) ≤ (e3_w32 (3600 + l4)) ∧ ((e3_w32 (3600 + l4)) : Int) < 3900) ∧ ((0 : Int) ≤ (e3_w32 ((e3_w32 (3600 + l4)) + l3)) ∧ ((e3_w32 ((e3_w32 (3600 + l4)) + l3)) : Int) < 3900) ∧ ∀ H37 : e3_H, H37 = e3_up H34 112 (e3_w32 ((e3_w32 (3600 + l4)) + l3)) (H34 112 (e3_w32 (3600 + l4))) → ((0 : Int) ≤ (e3_w32 (3600 + l4)) ∧ ((e3_w32 (3600 + l4)) : Int) < 3900) ∧ ((0 : Int) ≤ (e3_w32 ((e3_w32 (3600 + l4)) + l3)) ∧ ((e3_w32 ((e3_w32 (3600 + l4)) + l3)) : Int) < 3900) ∧ ∀ H40 : e3_H, H40 = e3_up H37 113 (e3_w32 ((e3_w32 (3600 + l4)) + l3)) (H37 113 (e3_w32 (3600 + l4))) → ((0 : Int) ≤ (e3_w32 (3600 + l4)) ∧ ((e3_w32 (3600 + l4)) : Int) < 3900) ∧ ((0 : Int) ≤ (e3_w32 ((e3_w32 (3600 + l4)) + l3)) ∧ ((e3_w32 ((e3_w32 (3600 + l4)) + l3)) : Int) < 3900) ∧ ∀ H43 : e3_H, H43 = e3_up H40 114 (e3_w32 ((e3_w32 (3600 + l4)) + l3)) (e3_and (H40 114 (e3_w32 (3600 + l4))) 1) → (wM_remake_49 Q nn l1 l2 l3 (e3_w32 (l4 + 1)) H43 G30)) (H26 110 (e3_w32 (3600 + l4))) l3 H26 G24)) (H20 108 (e3_w32 (3600 + l4))) l3 H20 G18)) (H13 107 (e3_w32 (3600 + l4))) l3 H13 G)) ∧ (¬ ((l4 : Int) < (H 99 12)) → ((0 : Int) ≤ l1 ∧ (l1 : Int) < 13) ∧ ∀ H46 : e3_H, H46 = e3_up H 99 l1 (H 99 12) → ((0 : Int) ≤ l1 ∧ (l1 : Int) < 13) ∧ ∀ H48 : e3_H, H48 = e3_up H46 100 l1 l2 → ((0 : Int) ≤ l1 ∧ (l1 : Int) < 13) ∧ ∀ H50 : e3_H, H50 = e3_up H48 101 l1 (H48 40 10) → ((0 : Int) ≤ l1 ∧ (l1 : Int) < 13) ∧ Q (H50 99 l1) H50 G)) := h
    refine e3_K [0, 0, 4, 0, 2] 58 [(2, 40), (0, l1), (0, l2), (0, l3), (0, l4), (3, 0), (3, 0)] [(0, (H 99 12)), (0, l4)] (H) (G) (wZ L xs) (M := tbM263) rfl rfl ⟨trivial, ⟨by decide, by decide⟩, trivial⟩ ?_
    refine e3_br (M := tbM263) rfl rfl rfl Iff.rfl (fun hc => ?_) (fun hc => ?_)
    · replace h := h.1 hc
      obtain ⟨o2, o3, h⟩ := h
      refine e3_K [0, 0, 0, 0, 0, 0, 0, 0, 0, 4, 0, 0, 4, 0, 2, 2] 89 [(2, 40), (0, l1), (0, l2), (0, l3), (0, l4), (0, (e3_w32 (3600 + l4))), (0, (e3_w32 ((e3_w32 (3600 + l4)) + l3)))] [] (e3_up H 102 (e3_w32 ((e3_w32 (3600 + l4)) + l3)) (H 102 (e3_w32 (3600 + l4)))) (G) (wZ L xs) (M := tbM263) rfl rfl ⟨trivial, trivial, o2, o3, trivial⟩ ?_
      generalize hH1 : (e3_up H 102 (e3_w32 ((e3_w32 (3600 + l4)) + l3)) (H 102 (e3_w32 (3600 + l4)))) = H1
      replace h := h H1 hH1.symm
      obtain ⟨o5, o6, h⟩ := h
      refine e3_K [0, 4, 0, 0, 4, 0, 2, 2] 103 [(2, 40), (0, l1), (0, l2), (0, l3), (0, l4), (0, (e3_w32 (3600 + l4))), (0, (e3_w32 ((e3_w32 (3600 + l4)) + l3)))] [] (e3_up H1 103 (e3_w32 ((e3_w32 (3600 + l4)) + l3)) (H1 103 (e3_w32 (3600 + l4)))) (G) (wZ L xs) (M := tbM263) rfl rfl ⟨trivial, trivial, o5, o6, trivial⟩ ?_
      generalize hH4 : (e3_up H1 103 (e3_w32 ((e3_w32 (3600 + l4)) + l3)) (H1 103 (e3_w32 (3600 + l4)))) = H4
      replace h := h H4 hH4.symm
      obtain ⟨o8, o9, h⟩ := h
      refine e3_K [0, 4, 0, 0, 4, 0, 2, 2] 117 [(2, 40), (0, l1), (0, l2), (0, l3), (0, l4), (0, (e3_w32 (3600 + l4))), (0, (e3_w32 ((e3_w32 (3600 + l4)) + l3)))] [] (e3_up H4 104 (e3_w32 ((e3_w32 (3600 + l4)) + l3)) (H4 104 (e3_w32 (3600 + l4)))) (G) (wZ L xs) (M := tbM263) rfl rfl ⟨trivial, trivial, o8, o9, trivial⟩ ?_
      generalize hH7 : (e3_up H4 104 (e3_w32 ((e3_w32 (3600 + l4)) + l3)) (H4 104 (e3_w32 (3600 + l4)))) = H7
      replace h := h H7 hH7.symm
      obtain ⟨o11, o12, h⟩ := h
      refine e3_K [0, 4, 0, 0, 4, 0, 2, 2] 131 [(2, 40), (0, l1), (0, l2), (0, l3), (0, l4), (0, (e3_w32 (3600 + l4))), (0, (e3_w32 ((e3_w32 (3600 + l4)) + l3)))] [] (e3_up H7 105 (e3_w32 ((e3_w32 (3600 + l4)) + l3)) (H7 105 (e3_w32 (3600 + l4)))) (G) (wZ L xs) (M := tbM263) rfl rfl ⟨trivial, trivial, o11, o12, trivial⟩ ?_
      generalize hH10 : (e3_up H7 105 (e3_w32 ((e3_w32 (3600 + l4)) + l3)) (H7 105 (e3_w32 (3600 + l4)))) = H10
      replace h := h H10 hH10.symm
      obtain ⟨o14, o15, h⟩ := h
      refine e3_K [0, 4, 0, 0, 4, 0, 2, 2] 145 [(2, 40), (0, l1), (0, l2), (0, l3), (0, l4), (0, (e3_w32 (3600 + l4))), (0, (e3_w32 ((e3_w32 (3600 + l4)) + l3)))] [] (e3_up H10 106 (e3_w32 ((e3_w32 (3600 + l4)) + l3)) (H10 106 (e3_w32 (3600 + l4)))) (G) (wZ L xs) (M := tbM263) rfl rfl ⟨trivial, trivial, o14, o15, trivial⟩ ?_
      generalize hH13 : (e3_up H10 106 (e3_w32 ((e3_w32 (3600 + l4)) + l3)) (H10 106 (e3_w32 (3600 + l4)))) = H13
      replace h := h H13 hH13.symm
      obtain ⟨o16, h⟩ := h
      refine e3_K [0, 4, 0, 0, 4, 0, 2, 0] 159 [(2, 40), (0, l1), (0, l2), (0, l3), (0, l4), (0, (e3_w32 (3600 + l4))), (0, (e3_w32 ((e3_w32 (3600 + l4)) + l3)))] [(0, l3), (0, (H13 107 (e3_w32 (3600 + l4)))), (0, (e3_w32 ((e3_w32 (3600 + l4)) + l3))), (2, 107)] (H13) (G) (wZ L xs) (M := tbM263) rfl rfl ⟨trivial, trivial, o16, trivial⟩ ?_
      refine e3_call (o := 0) (k := 265) (M2 := tbM265) (f1 := 0) (w1 := 0) (as := [(0, (H13 107 (e3_w32 (3600 + l4)))), (0, l3)]) (rest := [(0, (e3_w32 ((e3_w32 (3600 + l4)) + l3))), (2, 107)]) (M := tbM263) rfl rfl rfl trivial (Nat.le_of_ble_eq_true rfl) (Nat.le_of_ble_eq_true rfl) (Nat.le_of_ble_eq_true rfl) ?_
      refine e3_mono (sM_moved L xs _ _ _ _ _ h) (fun r H17 G18 h => ?_)
      obtain ⟨x19, rfl, h⟩ := h
      change e3_Ev _ _ _ _ 162 [(2, 40), (0, l1), (0, l2), (0, l3), (0, l4), (0, (e3_w32 (3600 + l4))), (0, (e3_w32 ((e3_w32 (3600 + l4)) + l3)))] [(0, x19), (0, (e3_w32 ((e3_w32 (3600 + l4)) + l3))), (2, 107)] H17 G18 _
      obtain ⟨o21, h⟩ := h
      refine e3_K [2] 163 [(2, 40), (0, l1), (0, l2), (0, l3), (0, l4), (0, (e3_w32 (3600 + l4))), (0, (e3_w32 ((e3_w32 (3600 + l4)) + l3)))] [] (e3_up H17 107 (e3_w32 ((e3_w32 (3600 + l4)) + l3)) x19) (G18) (wZ L xs) (M := tbM263) rfl rfl ⟨o21, trivial⟩ ?_
      generalize hH20 : (e3_up H17 107 (e3_w32 ((e3_w32 (3600 + l4)) + l3)) x19) = H20
      replace h := h H20 hH20.symm
      obtain ⟨o22, h⟩ := h
      refine e3_K [0, 4, 0, 0, 4, 0, 2, 0] 177 [(2, 40), (0, l1), (0, l2), (0, l3), (0, l4), (0, (e3_w32 (3600 + l4))), (0, (e3_w32 ((e3_w32 (3600 + l4)) + l3)))] [(0, l3), (0, (H20 108 (e3_w32 (3600 + l4)))), (0, (e3_w32 ((e3_w32 (3600 + l4)) + l3))), (2, 108)] (H20) (G18) (wZ L xs) (M := tbM263) rfl rfl ⟨trivial, trivial, o22, trivial⟩ ?_
      refine e3_call (o := 0) (k := 265) (M2 := tbM265) (f1 := 0) (w1 := 0) (as := [(0, (H20 108 (e3_w32 (3600 + l4)))), (0, l3)]) (rest := [(0, (e3_w32 ((e3_w32 (3600 + l4)) + l3))), (2, 108)]) (M := tbM263) rfl rfl rfl trivial (Nat.le_of_ble_eq_true rfl) (Nat.le_of_ble_eq_true rfl) (Nat.le_of_ble_eq_true rfl) ?_
      refine e3_mono (sM_moved L xs _ _ _ _ _ h) (fun r H23 G24 h => ?_)
      obtain ⟨x25, rfl, h⟩ := h
      change e3_Ev _ _ _ _ 180 [(2, 40), (0, l1), (0, l2), (0, l3), (0, l4), (0, (e3_w32 (3600 + l4))), (0, (e3_w32 ((e3_w32 (3600 + l4)) + l3)))] [(0, x25), (0, (e3_w32 ((e3_w32 (3600 + l4)) + l3))), (2, 108)] H23 G24 _
      obtain ⟨o27, h⟩ := h
      refine e3_K [2] 181 [(2, 40), (0, l1), (0, l2), (0, l3), (0, l4), (0, (e3_w32 (3600 + l4))), (0, (e3_w32 ((e3_w32 (3600 + l4)) + l3)))] [] (e3_up H23 108 (e3_w32 ((e3_w32 (3600 + l4)) + l3)) x25) (G24) (wZ L xs) (M := tbM263) rfl rfl ⟨o27, trivial⟩ ?_
      generalize hH26 : (e3_up H23 108 (e3_w32 ((e3_w32 (3600 + l4)) + l3)) x25) = H26
      replace h := h H26 hH26.symm
      obtain ⟨o28, h⟩ := h
      refine e3_K [0, 4, 0, 0, 4, 0, 2, 0] 195 [(2, 40), (0, l1), (0, l2), (0, l3), (0, l4), (0, (e3_w32 (3600 + l4))), (0, (e3_w32 ((e3_w32 (3600 + l4)) + l3)))] [(0, l3), (0, (H26 110 (e3_w32 (3600 + l4)))), (0, (e3_w32 ((e3_w32 (3600 + l4)) + l3))), (2, 110)] (H26) (G24) (wZ L xs) (M := tbM263) rfl rfl ⟨trivial, trivial, o28, trivial⟩ ?_
      refine e3_call (o := 0) (k := 265) (M2 := tbM265) (f1 := 0) (w1 := 0) (as := [(0, (H26 110 (e3_w32 (3600 + l4)))), (0, l3)]) (rest := [(0, (e3_w32 ((e3_w32 (3600 + l4)) + l3))), (2, 110)]) (M := tbM263) rfl rfl rfl trivial (Nat.le_of_ble_eq_true rfl) (Nat.le_of_ble_eq_true rfl) (Nat.le_of_ble_eq_true rfl) ?_
      refine e3_mono (sM_moved L xs _ _ _ _ _ h) (fun r H29 G30 h => ?_)
      obtain ⟨x31, rfl, h⟩ := h
      change e3_Ev _ _ _ _ 198 [(2, 40), (0, l1), (0, l2), (0, l3), (0, l4), (0, (e3_w32 (3600 + l4))), (0, (e3_w32 ((e3_w32 (3600 + l4)) + l3)))] [(0, x31), (0, (e3_w32 ((e3_w32 (3600 + l4)) + l3))), (2, 110)] H29 G30 _
      obtain ⟨o33, h⟩ := h
      refine e3_K [2] 199 [(2, 40), (0, l1), (0, l2), (0, l3), (0, l4), (0, (e3_w32 (3600 + l4))), (0, (e3_w32 ((e3_w32 (3600 + l4)) + l3)))] [] (e3_up H29 110 (e3_w32 ((e3_w32 (3600 + l4)) + l3)) x31) (G30) (wZ L xs) (M := tbM263) rfl rfl ⟨o33, trivial⟩ ?_
      generalize hH32 : (e3_up H29 110 (e3_w32 ((e3_w32 (3600 + l4)) + l3)) x31) = H32
      replace h := h H32 hH32.symm
      obtain ⟨o35, o36, h⟩ := h
      refine e3_K [0, 4, 0, 0, 4, 0, 2, 2] 213 [(2, 40), (0, l1), (0, l2), (0, l3), (0, l4), (0, (e3_w32 (3600 + l4))), (0, (e3_w32 ((e3_w32 (3600 + l4)) + l3)))] [] (e3_up H32 111 (e3_w32 ((e3_w32 (3600 + l4)) + l3)) (H32 111 (e3_w32 (3600 + l4)))) (G30) (wZ L xs) (M := tbM263) rfl rfl ⟨trivial, trivial, o35, o36, trivial⟩ ?_
      generalize hH34 : (e3_up H32 111 (e3_w32 ((e3_w32 (3600 + l4)) + l3)) (H32 111 (e3_w32 (3600 + l4)))) = H34
      replace h := h H34 hH34.symm
      obtain ⟨o38, o39, h⟩ := h
      refine e3_K [0, 4, 0, 0, 4, 0, 2, 2] 227 [(2, 40), (0, l1), (0, l2), (0, l3), (0, l4), (0, (e3_w32 (3600 + l4))), (0, (e3_w32 ((e3_w32 (3600 + l4)) + l3)))] [] (e3_up H34 112 (e3_w32 ((e3_w32 (3600 + l4)) + l3)) (H34 112 (e3_w32 (3600 + l4)))) (G30) (wZ L xs) (M := tbM263) rfl rfl ⟨trivial, trivial, o38, o39, trivial⟩ ?_
      generalize hH37 : (e3_up H34 112 (e3_w32 ((e3_w32 (3600 + l4)) + l3)) (H34 112 (e3_w32 (3600 + l4)))) = H37
      replace h := h H37 hH37.symm
      obtain ⟨o41, o42, h⟩ := h
      refine e3_K [0, 4, 0, 0, 4, 0, 2, 2] 241 [(2, 40), (0, l1), (0, l2), (0, l3), (0, l4), (0, (e3_w32 (3600 + l4))), (0, (e3_w32 ((e3_w32 (3600 + l4)) + l3)))] [] (e3_up H37 113 (e3_w32 ((e3_w32 (3600 + l4)) + l3)) (H37 113 (e3_w32 (3600 + l4)))) (G30) (wZ L xs) (M := tbM263) rfl rfl ⟨trivial, trivial, o41, o42, trivial⟩ ?_
      generalize hH40 : (e3_up H37 113 (e3_w32 ((e3_w32 (3600 + l4)) + l3)) (H37 113 (e3_w32 (3600 + l4)))) = H40
      replace h := h H40 hH40.symm
      obtain ⟨o44, o45, h⟩ := h
      refine e3_K [0, 4, 0, 0, 4, 0, 2, 2] 255 [(2, 40), (0, l1), (0, l2), (0, l3), (0, l4), (0, (e3_w32 (3600 + l4))), (0, (e3_w32 ((e3_w32 (3600 + l4)) + l3)))] [] (e3_up H40 114 (e3_w32 ((e3_w32 (3600 + l4)) + l3)) (e3_and (H40 114 (e3_w32 (3600 + l4))) 1)) (G30) (wZ L xs) (M := tbM263) rfl rfl ⟨trivial, trivial, o44, o45, trivial⟩ ?_
      generalize hH43 : (e3_up H40 114 (e3_w32 ((e3_w32 (3600 + l4)) + l3)) (e3_and (H40 114 (e3_w32 (3600 + l4))) 1)) = H43
      replace h := h H43 hH43.symm
      refine e3_K [0, 0] 49 [(2, 40), (0, l1), (0, l2), (0, l3), (0, (e3_w32 (l4 + 1))), (0, (e3_w32 (3600 + l4))), (0, (e3_w32 ((e3_w32 (3600 + l4)) + l3)))] [] (H43) (G30) (wZ L xs) (M := tbM263) rfl rfl trivial ?_
      refine e3_fgt [true, true, true, true, true, false, false] ?_
      exact ih _ _ _ _ _ _ h
    · replace h := h.2 hc
      obtain ⟨o47, h⟩ := h
      refine e3_K [0, 4, 0, 0, 4, 0, 2, 2] 274 [(2, 40), (0, l1), (0, l2), (0, l3), (0, l4), (3, 0), (3, 0)] [] (e3_up H 99 l1 (H 99 12)) (G) (wZ L xs) (M := tbM263) rfl rfl ⟨trivial, trivial, ⟨by decide, by decide⟩, o47, trivial⟩ ?_
      generalize hH46 : (e3_up H 99 l1 (H 99 12)) = H46
      replace h := h H46 hH46.symm
      obtain ⟨o49, h⟩ := h
      refine e3_K [0, 4, 0, 0, 2] 281 [(2, 40), (0, l1), (0, l2), (0, l3), (0, l4), (3, 0), (3, 0)] [] (e3_up H46 100 l1 l2) (G) (wZ L xs) (M := tbM263) rfl rfl ⟨trivial, o49, trivial⟩ ?_
      generalize hH48 : (e3_up H46 100 l1 l2) = H48
      replace h := h H48 hH48.symm
      obtain ⟨o51, h⟩ := h
      refine e3_K [0, 4, 0, 0, 2, 2] 291 [(2, 40), (0, l1), (0, l2), (0, l3), (0, l4), (3, 0), (3, 0)] [] (e3_up H48 101 l1 (H48 40 10)) (G) (wZ L xs) (M := tbM263) rfl rfl ⟨trivial, trivial, o51, trivial⟩ ?_
      generalize hH50 : (e3_up H48 101 l1 (H48 40 10)) = H50
      replace h := h H50 hH50.symm
      obtain ⟨o52, h⟩ := h
      refine e3_K [0, 4, 0, 2] 297 [(2, 40), (0, l1), (0, l2), (0, l3), (0, l4), (3, 0), (3, 0)] [(0, (H50 99 l1))] (H50) (G) (wZ L xs) (M := tbM263) rfl rfl ⟨trivial, o52, trivial⟩ ?_
      exact e3_reti (M := tbM263) rfl rfl rfl ⟨_, rfl, h⟩
set_option maxRecDepth 100000 in
set_option maxHeartbeats 4000000 in
theorem sM_remake (L : Nat) (xs : Nat → Int32) (Q : Int → e3_H → e3_G → Prop) (l1 : Int) (l2 : Int) (H : e3_H) (G : e3_G) (h : wM_remake Q l1 l2 H G) : e3_Ev (wB L xs) 6 157 263 0 [(2, 40), (0, l1), (0, l2), (3, 0), (3, 0), (3, 0), (3, 0)] [] H G (e3_q0 Q) := by
  unfold wM_remake at h
  refine e3_K [0, 0] 2 [(2, 40), (0, l1), (0, l2), (3, 0), (3, 0), (3, 0), (3, 0)] [(0, l1), (2, 40)] (H) (G) (wZ L xs) (M := tbM263) rfl rfl trivial ?_
  refine e3_call (o := 0) (k := 264) (M2 := tbM264) (f1 := 1) (w1 := 25) (as := [(2, 40), (0, l1)]) (rest := []) (M := tbM263) rfl rfl rfl trivial (Nat.le_of_ble_eq_true rfl) (Nat.le_of_ble_eq_true rfl) (Nat.le_of_ble_eq_true rfl) ?_
  refine e3_mono (sM_isFunction L xs _ _ _ _ h) (fun r H1 G2 h => ?_)
  obtain ⟨x3, rfl, h⟩ := h
  change e3_Ev _ _ _ _ 5 [(2, 40), (0, l1), (0, l2), (3, 0), (3, 0), (3, 0), (3, 0)] [(0, x3)] H1 G2 _
  refine e3_br (M := tbM263) rfl rfl rfl Iff.rfl (fun hc => ?_) (fun hc => ?_)
  · replace h := h.1 hc
    refine e3_fgt [false, false, false, false, false, false, false] ?_
    exact sM_remake_20 L xs Q _ _ h
  · replace h := h.2 hc
    refine e3_K [0, 0, 0, 2] 14 [(2, 40), (0, l1), (0, l2), (3, 0), (3, 0), (3, 0), (3, 0)] [(1, 3), (1, 0), (1, l2)] (H1) (G2) (wZ L xs) (M := tbM263) rfl rfl ⟨trivial, trivial⟩ ?_
    refine e3_call (o := 0) (k := 198) (M2 := tbM198) (f1 := 0) (w1 := 0) (as := [(1, l2), (1, 0), (1, 3)]) (rest := []) (M := tbM263) rfl rfl rfl trivial (Nat.le_of_ble_eq_true rfl) (Nat.le_of_ble_eq_true rfl) (Nat.le_of_ble_eq_true rfl) ?_
    refine e3_mono (sM_in L xs _ _ _ _ _ _ h) (fun r H4 G5 h => ?_)
    obtain ⟨x6, rfl, h⟩ := h
    change e3_Ev _ _ _ _ 17 [(2, 40), (0, l1), (0, l2), (3, 0), (3, 0), (3, 0), (3, 0)] [(0, x6)] H4 G5 _
    refine e3_br (M := tbM263) rfl rfl rfl Iff.rfl (fun hc => ?_) (fun hc => ?_)
    · replace h := h.1 hc
      refine e3_fgt [false, false, false, false, false, false, false] ?_
      exact sM_remake_20 L xs Q _ _ h
    · replace h := h.2 hc
      refine e3_K [0, 0, 0, 0, 0] 28 [(2, 40), (0, l1), (0, l2), (3, 0), (3, 0), (3, 0), (3, 0)] [(0, 0), (0, l2), (0, l1), (0, 12), (2, 40)] (H4) (G5) (wZ L xs) (M := tbM263) rfl rfl trivial ?_
      refine e3_call (o := 0) (k := 242) (M2 := tbM242) (f1 := 5) (w1 := 129) (as := [(2, 40), (0, 12), (0, l1), (0, l2), (0, 0)]) (rest := []) (M := tbM263) rfl rfl rfl trivial (Nat.le_of_ble_eq_true rfl) (Nat.le_of_ble_eq_true rfl) (Nat.le_of_ble_eq_true rfl) ?_
      refine e3_mono (sM_makes L xs _ _ _ _ _ _ _ h) (fun r H7 G8 h => ?_)
      obtain ⟨x9, rfl, h⟩ := h
      change e3_Ev _ _ _ _ 31 [(2, 40), (0, l1), (0, l2), (3, 0), (3, 0), (3, 0), (3, 0)] [(0, x9)] H7 G8 _
      refine e3_br (M := tbM263) rfl rfl rfl Iff.rfl (fun hc => ?_) (fun hc => ?_)
      · replace h := h.1 hc
        refine e3_K [0] 36 [(2, 40), (0, l1), (0, l2), (3, 0), (3, 0), (3, 0), (3, 0)] [(0, (-3))] (H7) (G8) (wZ L xs) (M := tbM263) rfl rfl trivial ?_
        exact e3_reti (M := tbM263) rfl rfl rfl ⟨_, rfl, h⟩
      · replace h := h.2 hc
        refine e3_K [0, 0, 0, 0, 0, 0, 0, 0] 49 [(2, 40), (0, l1), (0, l2), (0, (e3_w32 (300 * (e3_w32 (l1 - 12))))), (0, 0), (3, 0), (3, 0)] [] (H7) (G8) (wZ L xs) (M := tbM263) rfl rfl trivial ?_
        obtain ⟨nl, h⟩ := h
        exact sM_remake_49 L xs Q nl _ _ _ _ _ _ h
