/-- LetterPost$TreeMaker.nodeOf(I)I -/
def wD_nodeOf (Q : Int → e3_H → e3_G → Prop) (l0 : Int) (H : e3_H) (G : e3_G) : Prop :=
  (((l0 : Int) = 0 → Q 6 H G) ∧ ((l0 : Int) = 1 → Q 4 H G) ∧ ((l0 : Int) = 2 → Q 5 H G) ∧ ((l0 : Int) < 0 ∨ 2 < l0 → Q 3 H G))
set_option maxRecDepth 100000 in
set_option maxHeartbeats 4000000 in
theorem sD_nodeOf (L : Nat) (xs : Nat → Int32) (Q : Int → e3_H → e3_G → Prop) (l0 : Int) (H : e3_H) (G : e3_G) (h : wD_nodeOf Q l0 H G) : e3_Ev (wB L xs) 0 0 123 0 [(0, l0)] [] H G (e3_q0 Q) := by
  unfold wD_nodeOf at h
  refine e3_K [0] 1 [(0, l0)] [(0, l0)] (H) (G) (wZ L xs) (M := tbM123) rfl rfl trivial ?_
  by_cases hc0 : (l0 : Int) = 0
  · replace h := h.1 hc0
    refine e3_sw (M := tbM123) rfl rfl hc0 rfl ?_
    refine e3_K [0] 30 [(0, l0)] [(0, 6)] (H) (G) (wZ L xs) (M := tbM123) rfl rfl trivial ?_
    exact e3_reti (M := tbM123) rfl rfl rfl ⟨_, rfl, h⟩
  replace h := h.2
  by_cases hc1 : (l0 : Int) = 1
  · replace h := h.1 hc1
    refine e3_sw (M := tbM123) rfl rfl hc1 rfl ?_
    refine e3_K [0] 32 [(0, l0)] [(0, 4)] (H) (G) (wZ L xs) (M := tbM123) rfl rfl trivial ?_
    exact e3_reti (M := tbM123) rfl rfl rfl ⟨_, rfl, h⟩
  replace h := h.2
  by_cases hc2 : (l0 : Int) = 2
  · replace h := h.1 hc2
    refine e3_sw (M := tbM123) rfl rfl hc2 rfl ?_
    refine e3_K [0] 34 [(0, l0)] [(0, 5)] (H) (G) (wZ L xs) (M := tbM123) rfl rfl trivial ?_
    exact e3_reti (M := tbM123) rfl rfl rfl ⟨_, rfl, h⟩
  replace h := h.2
  replace h := h (by omega)
  refine e3_sw (M := tbM123) rfl rfl rfl ((e3_swdt (by omega)).trans rfl) ?_
  refine e3_K [0] 36 [(0, l0)] [(0, 3)] (H) (G) (wZ L xs) (M := tbM123) rfl rfl trivial ?_
  exact e3_reti (M := tbM123) rfl rfl rfl ⟨_, rfl, h⟩
/-- LetterPost$TreeMaker.split(IJII)Z -/
def wD_split_125 (R : Int → Int → Int → e3_H → e3_G → (Int → e3_H → e3_G → Prop) → Prop) (Q : Int → e3_H → e3_G → Prop) (l4 : Int) (l6 : Int) (l9 : Int) (H : e3_H) (G : e3_G) : Prop :=
  (e3_oa G 1 (H 16 4) l4) ∧ ∀ H1 : e3_H, H1 = e3_up H (H 16 4) l4 ((-9223372036854775808 : Int64).toInt) → ∀ H3 : e3_H, H3 = e3_up H1 16 6 l6 → ((l9 : Int) = 0 ∨ l9 = 1) ∧ Q l9 H3 G
def wD_split_75 (R : Int → Int → Int → e3_H → e3_G → (Int → e3_H → e3_G → Prop) → Prop) (Q : Int → e3_H → e3_G → Prop) : Nat → Int → Int → Int → Int → Int → Int → Int → e3_H → e3_G → Prop
  | 0, _, _, _, _, _, _, _, _, _ => False
  | nn + 1, l2, l4, l5, l6, l8, l9, l10, H, G => (((l10 : Int) < l8 → (((l9 : Int) = 0 → (wD_split_125 R Q l4 l6 l9 H G)) ∧ (¬ ((l9 : Int) = 0) → ((0 : Int) ≤ l10 ∧ (l10 : Int) < 201) ∧ (e3_oa G 1 (H 16 4) l4) ∧ ∀ H1 : e3_H, H1 = e3_up H (H 16 4) l4 (H 25 l10) → ((0 : Int) ≤ l10 ∧ (l10 : Int) < 201) ∧ (R l2 (H1 25 l10) (e3_w32 (l5 + 1)) H1 G (fun x7 H5 G6 => (wD_split_75 R Q nn l2 l4 l5 l6 l8 x7 (e3_w32 (l10 + 1)) H5 G6)))))) ∧ (¬ ((l10 : Int) < l8) → (wD_split_125 R Q l4 l6 l9 H G)))
def wD_split (R : Int → Int → Int → e3_H → e3_G → (Int → e3_H → e3_G → Prop) → Prop) (Q : Int → e3_H → e3_G → Prop) (l1 : Int) (l2 : Int) (l4 : Int) (l5 : Int) (H : e3_H) (G : e3_G) : Prop :=
  (wD_pushLabels (fun x3 H1 G2 => (e3_ob G2 5 (H1 16 1)) ∧ (wD_nodeOf (fun x7 H5 G6 => (e3_oa G6 0 (H1 (H1 16 1) 4) l1) ∧ ∀ H8 : e3_H, H8 = e3_up H5 (H1 (H1 16 1) 4) l1 x7 → (e3_ob G6 5 (H8 16 1)) ∧ (e3_oa G6 0 (H8 (H8 16 1) 6) l1) ∧ ∀ H10 : e3_H, H10 = e3_up H8 (H8 (H8 16 1) 6) l1 l4 → (e3_ob G6 5 (H10 16 1)) ∧ (e3_oa G6 0 (H10 (H10 16 1) 7) l1) ∧ ∀ H13 : e3_H, H13 = e3_up H10 (H10 (H10 16 1) 7) l1 (e3_w32 ((H1 16 6) - (H 16 6))) → (wD_promise (fun x18 H16 G17 => (∃ n, wD_split_75 R Q n l2 l4 l5 (H 16 6) (H1 16 6) x18 (H 16 6) H16 G17)) (e3_w32 ((H1 16 6) - (H 16 6))) H13 G6)) x3 H1 G2)) l4 l2 H G)
set_option maxRecDepth 100000 in
set_option maxHeartbeats 4000000 in
theorem sD_split_125 (L : Nat) (xs : Nat → Int32) (n : Nat) (R : Int → Int → Int → e3_H → e3_G → (Int → e3_H → e3_G → Prop) → Prop) (hR : ∀ (l1 : Int) (l3 : Int) (l5 : Int) (H : e3_H) (G : e3_G) (Q : Int → e3_H → e3_G → Prop), R l1 l3 l5 H G Q → e3_Ev (wB L xs) (6 + 3 * n) (148 + 81 * n) 98 0 [(2, 16), (1, l1), (3, 0), (1, l3), (3, 0), (0, l5), (3, 0), (3, 0), (3, 0), (3, 0), (3, 0), (3, 0), (3, 0)] [] H G (e3_q0 Q)) (Q : Int → e3_H → e3_G → Prop) (l4 : Int) (l6 : Int) (l9 : Int) (H : e3_H) (G : e3_G) (h : wD_split_125 R Q l4 l6 l9 H G) : e3_Ev (wB L xs) (7 + 3 * n) (180 + 81 * n) 122 125 [(2, 16), (3, 0), (3, 0), (3, 0), (0, l4), (3, 0), (0, l6), (3, 0), (3, 0), (0, l9), (3, 0)] [] H G (e3_q0 Q) := by
  unfold wD_split_125 at h
  obtain ⟨o2, h⟩ := h
  refine e3_K [0, 2, 0, 2, 4] 135 [(2, 16), (3, 0), (3, 0), (3, 0), (0, l4), (3, 0), (0, l6), (3, 0), (3, 0), (0, l9), (3, 0)] [] (e3_up H (H 16 4) l4 ((-9223372036854775808 : Int64).toInt)) (G) (wZ L xs) (M := tbM122) rfl rfl ⟨trivial, trivial, o2, trivial⟩ ?_
  generalize hH1 : (e3_up H (H 16 4) l4 ((-9223372036854775808 : Int64).toInt)) = H1
  replace h := h H1 hH1.symm
  refine e3_K [0, 0, 2] 141 [(2, 16), (3, 0), (3, 0), (3, 0), (0, l4), (3, 0), (0, l6), (3, 0), (3, 0), (0, l9), (3, 0)] [] (e3_up H1 16 6 l6) (G) (wZ L xs) (M := tbM122) rfl rfl ⟨trivial, trivial⟩ ?_
  generalize hH3 : (e3_up H1 16 6 l6) = H3
  replace h := h H3 hH3.symm
  refine e3_K [0] 143 [(2, 16), (3, 0), (3, 0), (3, 0), (0, l4), (3, 0), (0, l6), (3, 0), (3, 0), (0, l9), (3, 0)] [(0, l9)] (H3) (G) (wZ L xs) (M := tbM122) rfl rfl trivial ?_
  exact e3_retb (M := tbM122) rfl rfl rfl h.1 ⟨_, rfl, h.2⟩
set_option maxRecDepth 100000 in
set_option maxHeartbeats 4000000 in
theorem sD_split_75 (L : Nat) (xs : Nat → Int32) (n : Nat) (R : Int → Int → Int → e3_H → e3_G → (Int → e3_H → e3_G → Prop) → Prop) (hR : ∀ (l1 : Int) (l3 : Int) (l5 : Int) (H : e3_H) (G : e3_G) (Q : Int → e3_H → e3_G → Prop), R l1 l3 l5 H G Q → e3_Ev (wB L xs) (6 + 3 * n) (148 + 81 * n) 98 0 [(2, 16), (1, l1), (3, 0), (1, l3), (3, 0), (0, l5), (3, 0), (3, 0), (3, 0), (3, 0), (3, 0), (3, 0), (3, 0)] [] H G (e3_q0 Q)) (Q : Int → e3_H → e3_G → Prop) : ∀ (nl : Nat) (l2 : Int) (l4 : Int) (l5 : Int) (l6 : Int) (l8 : Int) (l9 : Int) (l10 : Int) (H : e3_H) (G : e3_G), wD_split_75 R Q nl l2 l4 l5 l6 l8 l9 l10 H G → e3_Ev (wB L xs) (7 + 3 * n) (180 + 81 * n) 122 75 [(2, 16), (3, 0), (1, l2), (3, 0), (0, l4), (0, l5), (0, l6), (3, 0), (0, l8), (0, l9), (0, l10)] [] H G (e3_q0 Q) := by
  intro nl
  induction nl with
  | zero => intro l2 l4 l5 l6 l8 l9 l10 H G h; exact h.elim
  | succ nn ih =>
    intro l2 l4 l5 l6 l8 l9 l10 H G h
    have h : (((l10 : Int) < l8 → (((l9 : Int) = 0 → (wD_split_125 R Q l4 l6 l9 H G)) ∧ (¬ ((l9 : Int) = 0) → ((0 : Int) ≤ l10 ∧ (l10 : Int) < 201) ∧ (e3_oa G 1 (H 16 4) l4) ∧ ∀ H1 : e3_H, H1 = e3_up H (H 16 4) l4 (H 25 l10) → ((0 : Int) ≤ l10 ∧ (l10 : Int) < 201) ∧ (R l2 (H1 25 l10) (e3_w32 (l5 + 1)) H1 G (fun x7 H5 G6 => (wD_split_75 R Q nn l2 l4 l5 l6 l8 x7 (e3_w32 (l10 + 1)) H5 G6)))))) ∧ (¬ ((l10 : Int) < l8) → (wD_split_125 R Q l4 l6 l9 H G))) := h
    refine e3_K [0, 0] 79 [(2, 16), (3, 0), (1, l2), (3, 0), (0, l4), (0, l5), (0, l6), (3, 0), (0, l8), (0, l9), (0, l10)] [(0, l8), (0, l10)] (H) (G) (wZ L xs) (M := tbM122) rfl rfl trivial ?_
    refine e3_br (M := tbM122) rfl rfl rfl Iff.rfl (fun hc => ?_) (fun hc => ?_)
    · replace h := h.1 hc
      refine e3_K [0] 84 [(2, 16), (3, 0), (1, l2), (3, 0), (0, l4), (0, l5), (0, l6), (3, 0), (0, l8), (0, l9), (0, l10)] [(0, l9)] (H) (G) (wZ L xs) (M := tbM122) rfl rfl trivial ?_
      refine e3_br (M := tbM122) rfl rfl rfl Iff.rfl (fun hc => ?_) (fun hc => ?_)
      · replace h := h.1 hc
        refine e3_fgt [true, false, false, false, true, false, true, false, false, true, false] ?_
        exact sD_split_125 L xs n R hR Q _ _ _ _ _ h
      · replace h := h.2 hc
        obtain ⟨o2, o3, h⟩ := h
        refine e3_K [0, 2, 0, 0, 4, 0, 2, 4] 101 [(2, 16), (3, 0), (1, l2), (3, 0), (0, l4), (0, l5), (0, l6), (3, 0), (0, l8), (0, l9), (0, l10)] [] (e3_up H (H 16 4) l4 (H 25 l10)) (G) (wZ L xs) (M := tbM122) rfl rfl ⟨trivial, trivial, o2, o3, trivial⟩ ?_
        generalize hH1 : (e3_up H (H 16 4) l4 (H 25 l10)) = H1
        replace h := h H1 hH1.symm
        obtain ⟨o4, h⟩ := h
        refine e3_K [0, 0, 0, 4, 0, 2, 0, 0, 0] 114 [(2, 16), (3, 0), (1, l2), (3, 0), (0, l4), (0, l5), (0, l6), (3, 0), (0, l8), (0, l9), (0, l10)] [(0, (e3_w32 (l5 + 1))), (1, (H1 25 l10)), (1, l2), (2, 16)] (H1) (G) (wZ L xs) (M := tbM122) rfl rfl ⟨trivial, o4, trivial⟩ ?_
        refine e3_call (o := 0) (k := 98) (M2 := tbM98) (f1 := (6 + 3 * n)) (w1 := (148 + 81 * n)) (as := [(2, 16), (1, l2), (1, (H1 25 l10)), (0, (e3_w32 (l5 + 1)))]) (rest := []) (M := tbM122) rfl rfl rfl trivial (by omega) (by show (148 + 81 * n) + (19 + 13) ≤ (180 + 81 * n); omega) (Nat.le_of_ble_eq_true rfl) ?_
        refine e3_mono (hR _ _ _ _ _ _ h) (fun r H5 G6 h => ?_)
        obtain ⟨x7, rfl, h⟩ := h
        change e3_Ev _ _ _ _ 117 [(2, 16), (3, 0), (1, l2), (3, 0), (0, l4), (0, l5), (0, l6), (3, 0), (0, l8), (0, l9), (0, l10)] [(0, x7)] H5 G6 _
        refine e3_K [0, 0, 0] 75 [(2, 16), (3, 0), (1, l2), (3, 0), (0, l4), (0, l5), (0, l6), (3, 0), (0, l8), (0, x7), (0, (e3_w32 (l10 + 1)))] [] (H5) (G6) (wZ L xs) (M := tbM122) rfl rfl trivial ?_
        exact ih _ _ _ _ _ _ _ _ _ h
    · replace h := h.2 hc
      refine e3_fgt [true, false, false, false, true, false, true, false, false, true, false] ?_
      exact sD_split_125 L xs n R hR Q _ _ _ _ _ h
set_option maxRecDepth 100000 in
set_option maxHeartbeats 4000000 in
theorem sD_split (L : Nat) (xs : Nat → Int32) (n : Nat) (R : Int → Int → Int → e3_H → e3_G → (Int → e3_H → e3_G → Prop) → Prop) (hR : ∀ (l1 : Int) (l3 : Int) (l5 : Int) (H : e3_H) (G : e3_G) (Q : Int → e3_H → e3_G → Prop), R l1 l3 l5 H G Q → e3_Ev (wB L xs) (6 + 3 * n) (148 + 81 * n) 98 0 [(2, 16), (1, l1), (3, 0), (1, l3), (3, 0), (0, l5), (3, 0), (3, 0), (3, 0), (3, 0), (3, 0), (3, 0), (3, 0)] [] H G (e3_q0 Q)) (Q : Int → e3_H → e3_G → Prop) (l1 : Int) (l2 : Int) (l4 : Int) (l5 : Int) (H : e3_H) (G : e3_G) (h : wD_split R Q l1 l2 l4 l5 H G) : e3_Ev (wB L xs) (7 + 3 * n) (180 + 81 * n) 122 0 [(2, 16), (0, l1), (1, l2), (3, 0), (0, l4), (0, l5), (3, 0), (3, 0), (3, 0), (3, 0), (3, 0)] [] H G (e3_q0 Q) := by
  unfold wD_split at h
  refine e3_K [0, 2, 0, 0, 0, 0] 10 [(2, 16), (0, l1), (1, l2), (3, 0), (0, l4), (0, l5), (0, (H 16 6)), (3, 0), (3, 0), (3, 0), (3, 0)] [(1, l2), (0, l4), (2, 16)] (H) (G) (wZ L xs) (M := tbM122) rfl rfl ⟨trivial, trivial⟩ ?_
  refine e3_call (o := 0) (k := 112) (M2 := tbM112) (f1 := 2) (w1 := 48) (as := [(2, 16), (0, l4), (1, l2)]) (rest := []) (M := tbM122) rfl rfl rfl trivial (by omega) (by show 48 + (19 + 8) ≤ (180 + 81 * n); omega) (Nat.le_of_ble_eq_true rfl) ?_
  refine e3_mono (sD_pushLabels L xs _ _ _ _ _ h) (fun r H1 G2 h => ?_)
  obtain ⟨x3, rfl, h⟩ := h
  change e3_Ev _ _ _ _ 13 [(2, 16), (0, l1), (1, l2), (3, 0), (0, l4), (0, l5), (0, (H 16 6)), (3, 0), (3, 0), (3, 0), (3, 0)] [(0, x3)] H1 G2 _
  obtain ⟨o4, h⟩ := h
  refine e3_K [0, 0, 2, 0, 0, 2, 3, 0, 0] 31 [(2, 16), (0, l1), (1, l2), (3, 0), (0, l4), (0, l5), (0, (H 16 6)), (0, x3), (0, (H1 16 6)), (3, 0), (3, 0)] [(0, x3), (0, l1), (2, (H1 (H1 16 1) 4))] (H1) (G2) (wZ L xs) (M := tbM122) rfl rfl ⟨trivial, trivial, o4, trivial⟩ ?_
  refine e3_call (o := 0) (k := 123) (M2 := tbM123) (f1 := 0) (w1 := 0) (as := [(0, x3)]) (rest := [(0, l1), (2, (H1 (H1 16 1) 4))]) (M := tbM122) rfl rfl rfl trivial (by omega) (by show 0 + (19 + 1) ≤ (180 + 81 * n); omega) (Nat.le_of_ble_eq_true rfl) ?_
  refine e3_mono (sD_nodeOf L xs _ _ _ _ h) (fun r H5 G6 h => ?_)
  obtain ⟨x7, rfl, h⟩ := h
  change e3_Ev _ _ _ _ 34 [(2, 16), (0, l1), (1, l2), (3, 0), (0, l4), (0, l5), (0, (H 16 6)), (0, x3), (0, (H1 16 6)), (3, 0), (3, 0)] [(0, x7), (0, l1), (2, (H1 (H1 16 1) 4))] H5 G6 _
  obtain ⟨o9, h⟩ := h
  refine e3_K [3] 35 [(2, 16), (0, l1), (1, l2), (3, 0), (0, l4), (0, l5), (0, (H 16 6)), (0, x3), (0, (H1 16 6)), (3, 0), (3, 0)] [] (e3_up H5 (H1 (H1 16 1) 4) l1 x7) (G6) (wZ L xs) (M := tbM122) rfl rfl ⟨o9, trivial⟩ ?_
  generalize hH8 : (e3_up H5 (H1 (H1 16 1) 4) l1 x7) = H8
  replace h := h H8 hH8.symm
  obtain ⟨o11, o12, h⟩ := h
  refine e3_K [0, 2, 3, 0, 0, 3] 46 [(2, 16), (0, l1), (1, l2), (3, 0), (0, l4), (0, l5), (0, (H 16 6)), (0, x3), (0, (H1 16 6)), (3, 0), (3, 0)] [] (e3_up H8 (H8 (H8 16 1) 6) l1 l4) (G6) (wZ L xs) (M := tbM122) rfl rfl ⟨trivial, o11, o12, trivial⟩ ?_
  generalize hH10 : (e3_up H8 (H8 (H8 16 1) 6) l1 l4) = H10
  replace h := h H10 hH10.symm
  obtain ⟨o14, o15, h⟩ := h
  refine e3_K [0, 2, 3, 0, 0, 0, 0, 3] 60 [(2, 16), (0, l1), (1, l2), (3, 0), (0, l4), (0, l5), (0, (H 16 6)), (0, x3), (0, (H1 16 6)), (3, 0), (3, 0)] [] (e3_up H10 (H10 (H10 16 1) 7) l1 (e3_w32 ((H1 16 6) - (H 16 6)))) (G6) (wZ L xs) (M := tbM122) rfl rfl ⟨trivial, o14, o15, trivial⟩ ?_
  generalize hH13 : (e3_up H10 (H10 (H10 16 1) 7) l1 (e3_w32 ((H1 16 6) - (H 16 6)))) = H13
  replace h := h H13 hH13.symm
  refine e3_K [0, 0, 0, 0] 66 [(2, 16), (0, l1), (1, l2), (3, 0), (0, l4), (0, l5), (0, (H 16 6)), (0, x3), (0, (H1 16 6)), (3, 0), (3, 0)] [(0, (e3_w32 ((H1 16 6) - (H 16 6)))), (2, 16)] (H13) (G6) (wZ L xs) (M := tbM122) rfl rfl trivial ?_
  refine e3_call (o := 0) (k := 120) (M2 := tbM120) (f1 := 0) (w1 := 0) (as := [(2, 16), (0, (e3_w32 ((H1 16 6) - (H 16 6))))]) (rest := []) (M := tbM122) rfl rfl rfl trivial (by omega) (by show 0 + (19 + 2) ≤ (180 + 81 * n); omega) (Nat.le_of_ble_eq_true rfl) ?_
  refine e3_mono (sD_promise L xs _ _ _ _ h) (fun r H16 G17 h => ?_)
  obtain ⟨x18, rfl, h⟩ := h
  change e3_Ev _ _ _ _ 69 [(2, 16), (0, l1), (1, l2), (3, 0), (0, l4), (0, l5), (0, (H 16 6)), (0, x3), (0, (H1 16 6)), (3, 0), (3, 0)] [(0, x18)] H16 G17 _
  refine e3_K [0, 0, 0] 75 [(2, 16), (0, l1), (1, l2), (3, 0), (0, l4), (0, l5), (0, (H 16 6)), (0, x3), (0, (H1 16 6)), (0, x18), (0, (H 16 6))] [] (H16) (G17) (wZ L xs) (M := tbM122) rfl rfl trivial ?_
  refine e3_fgt [true, false, true, false, true, true, true, false, true, true, true] ?_
  obtain ⟨nl, h⟩ := h
  exact sD_split_75 L xs n R hR Q nl _ _ _ _ _ _ _ _ _ h
/-- LetterPost$Tree.has(I)Z -/
def wE_has_17 (Q : Int → e3_H → e3_G → Prop) (s0 : Int) (H : e3_H) (G : e3_G) : Prop :=
  ((s0 : Int) = 0 ∨ s0 = 1) ∧ Q s0 H G
def wE_has_16 (Q : Int → e3_H → e3_G → Prop)  (H : e3_H) (G : e3_G) : Prop :=
  (wE_has_17 Q 0 H G)
def wE_has (Q : Int → e3_H → e3_G → Prop) (l0 : Int) (l1 : Int) (H : e3_H) (G : e3_G) : Prop :=
  (((l1 : Int) < 0 → (wE_has_16 Q H G)) ∧ (¬ ((l1 : Int) < 0) → (e3_ob G 5 l0) ∧ (((l1 : Int) < (H l0 0) → (wE_has_17 Q 1 H G)) ∧ (¬ ((l1 : Int) < (H l0 0)) → (wE_has_16 Q H G)))))
set_option maxRecDepth 100000 in
set_option maxHeartbeats 4000000 in
theorem sE_has_17 (L : Nat) (xs : Nat → Int32) (Q : Int → e3_H → e3_G → Prop) (s0 : Int) (H : e3_H) (G : e3_G) (h : wE_has_17 Q s0 H G) : e3_Ev (wB L xs) 0 0 125 17 [(3, 0), (3, 0)] [(0, s0)] H G (e3_q0 Q) := by
  unfold wE_has_17 at h
  exact e3_retb (M := tbM125) rfl rfl rfl h.1 ⟨_, rfl, h.2⟩
set_option maxRecDepth 100000 in
set_option maxHeartbeats 4000000 in
theorem sE_has_16 (L : Nat) (xs : Nat → Int32) (Q : Int → e3_H → e3_G → Prop)  (H : e3_H) (G : e3_G) (h : wE_has_16 Q  H G) : e3_Ev (wB L xs) 0 0 125 16 [(3, 0), (3, 0)] [] H G (e3_q0 Q) := by
  unfold wE_has_16 at h
  refine e3_K [0] 17 [(3, 0), (3, 0)] [(0, 0)] (H) (G) (wZ L xs) (M := tbM125) rfl rfl trivial ?_
  exact sE_has_17 L xs Q _ _ _ h
set_option maxRecDepth 100000 in
set_option maxHeartbeats 4000000 in
theorem sE_has (L : Nat) (xs : Nat → Int32) (Q : Int → e3_H → e3_G → Prop) (l0 : Int) (l1 : Int) (H : e3_H) (G : e3_G) (h : wE_has Q l0 l1 H G) : e3_Ev (wB L xs) 0 0 125 0 [(2, l0), (0, l1)] [] H G (e3_q0 Q) := by
  unfold wE_has at h
  refine e3_K [0] 1 [(2, l0), (0, l1)] [(0, l1)] (H) (G) (wZ L xs) (M := tbM125) rfl rfl trivial ?_
  refine e3_br (M := tbM125) rfl rfl rfl Iff.rfl (fun hc => ?_) (fun hc => ?_)
  · replace h := h.1 hc
    refine e3_fgt [false, false] ?_
    exact sE_has_16 L xs Q _ _ h
  · replace h := h.2 hc
    obtain ⟨o1, h⟩ := h
    refine e3_K [0, 0, 3] 9 [(2, l0), (0, l1)] [(0, (H l0 0)), (0, l1)] (H) (G) (wZ L xs) (M := tbM125) rfl rfl ⟨o1, trivial⟩ ?_
    refine e3_br (M := tbM125) rfl rfl rfl Iff.rfl (fun hc => ?_) (fun hc => ?_)
    · replace h := h.1 hc
      refine e3_K [0, 0] 17 [(2, l0), (0, l1)] [(0, 1)] (H) (G) (wZ L xs) (M := tbM125) rfl rfl trivial ?_
      refine e3_fgt [false, false] ?_
      exact sE_has_17 L xs Q _ _ _ h
    · replace h := h.2 hc
      refine e3_fgt [false, false] ?_
      exact sE_has_16 L xs Q _ _ h
/-- LetterPost$Tree.end(I)V -/
def wE_end_18 (Q : e3_H → e3_G → Prop)  (H : e3_H) (G : e3_G) : Prop :=
  Q H G
def wE_end (Q : e3_H → e3_G → Prop) (l0 : Int) (l1 : Int) (H : e3_H) (G : e3_G) : Prop :=
  (e3_ob G 5 l0) ∧ (wE_has (fun x3 H1 G2 => (((x3 : Int) = 0 → (wE_end_18 Q H1 G2)) ∧ (¬ ((x3 : Int) = 0) → (e3_ob G2 5 l0) ∧ (e3_ob G2 5 l0) ∧ (e3_oa G2 0 (H1 l0 8) l1) ∧ ∀ H4 : e3_H, H4 = e3_up H1 (H1 l0 8) l1 (H1 l0 0) → (wE_end_18 Q H4 G2)))) l0 l1 H G)
set_option maxRecDepth 100000 in
set_option maxHeartbeats 4000000 in
theorem sE_end_18 (L : Nat) (xs : Nat → Int32) (Q : e3_H → e3_G → Prop)  (H : e3_H) (G : e3_G) (h : wE_end_18 Q  H G) : e3_Ev (wB L xs) 1 21 124 18 [(3, 0), (3, 0)] [] H G (e3_qv Q) := by
  unfold wE_end_18 at h
  exact e3_retv (M := tbM124) rfl rfl rfl ⟨rfl, h⟩
set_option maxRecDepth 100000 in
set_option maxHeartbeats 4000000 in
theorem sE_end (L : Nat) (xs : Nat → Int32) (Q : e3_H → e3_G → Prop) (l0 : Int) (l1 : Int) (H : e3_H) (G : e3_G) (h : wE_end Q l0 l1 H G) : e3_Ev (wB L xs) 1 21 124 0 [(2, l0), (0, l1)] [] H G (e3_qv Q) := by
  unfold wE_end at h
  refine e3_K [0, 0] 2 [(2, l0), (0, l1)] [(0, l1), (2, l0)] (H) (G) (wZ L xs) (M := tbM124) rfl rfl trivial ?_
  obtain ⟨oz, h⟩ := h
  refine e3_call (o := 1) (k := 125) (M2 := tbM125) (f1 := 0) (w1 := 0) (as := [(2, l0), (0, l1)]) (rest := []) (M := tbM124) rfl rfl rfl oz (Nat.le_of_ble_eq_true rfl) (Nat.le_of_ble_eq_true rfl) (Nat.le_of_ble_eq_true rfl) ?_
  refine e3_mono (sE_has L xs _ _ _ _ _ h) (fun r H1 G2 h => ?_)
  obtain ⟨x3, rfl, h⟩ := h
  change e3_Ev _ _ _ _ 5 [(2, l0), (0, l1)] [(0, x3)] H1 G2 _
  refine e3_br (M := tbM124) rfl rfl rfl Iff.rfl (fun hc => ?_) (fun hc => ?_)
  · replace h := h.1 hc
    refine e3_fgt [false, false] ?_
    exact sE_end_18 L xs Q _ _ h
  · replace h := h.2 hc
    obtain ⟨o5, o6, o7, h⟩ := h
    refine e3_K [0, 3, 0, 0, 3, 3] 18 [(2, l0), (0, l1)] [] (e3_up H1 (H1 l0 8) l1 (H1 l0 0)) (G2) (wZ L xs) (M := tbM124) rfl rfl ⟨o5, o6, o7, trivial⟩ ?_
    generalize hH4 : (e3_up H1 (H1 l0 8) l1 (H1 l0 0)) = H4
    replace h := h H4 hH4.symm
    refine e3_fgt [false, false] ?_
    exact sE_end_18 L xs Q _ _ h
/-- LetterPost$TreeMaker.grow(JJI)Z -/
def wD_grow_134 (R : Int → Int → Int → e3_H → e3_G → (Int → e3_H → e3_G → Prop) → Prop) (Q : Int → e3_H → e3_G → Prop) (l6 : Int) (l7 : Int) (H : e3_H) (G : e3_G) : Prop :=
  (e3_ob G 5 (H 16 1)) ∧ (wE_end (fun H1 G2 => ((l7 : Int) = 0 ∨ l7 = 1) ∧ Q l7 H1 G2) (H 16 1) l6 H G)
def wD_grow_132 (R : Int → Int → Int → e3_H → e3_G → (Int → e3_H → e3_G → Prop) → Prop) (Q : Int → e3_H → e3_G → Prop) (l6 : Int) (s0 : Int) (H : e3_H) (G : e3_G) : Prop :=
  (wD_grow_134 R Q l6 s0 H G)
def wD_grow_127 (R : Int → Int → Int → e3_H → e3_G → (Int → e3_H → e3_G → Prop) → Prop) (Q : Int → e3_H → e3_G → Prop) (l6 : Int) (H : e3_H) (G : e3_G) : Prop :=
  (wD_grow_132 R Q l6 1 H G)
def wD_grow_131 (R : Int → Int → Int → e3_H → e3_G → (Int → e3_H → e3_G → Prop) → Prop) (Q : Int → e3_H → e3_G → Prop) (l6 : Int) (H : e3_H) (G : e3_G) : Prop :=
  (wD_grow_132 R Q l6 0 H G)
def wD_grow_82 (R : Int → Int → Int → e3_H → e3_G → (Int → e3_H → e3_G → Prop) → Prop) (Q : Int → e3_H → e3_G → Prop) (l5 : Int) (l6 : Int) (l8 : Int) (l10 : Int) (l11 : Int) (s0 : Int) (H : e3_H) (G : e3_G) : Prop :=
  (((l11 : Int) < 0 → (wD_grow_127 R Q l6 H G)) ∧ (¬ ((l11 : Int) < 0) → (((s0 : Int) < 0 → (wD_settle R (fun x3 H1 G2 => (((x3 : Int) = 0 → (wD_grow_131 R Q l6 H1 G2)) ∧ (¬ ((x3 : Int) = 0) → (wD_grow_127 R Q l6 H1 G2)))) l6 l8 l10 l5 H G)) ∧ (¬ ((s0 : Int) < 0) → (wD_split R (fun x6 H4 G5 => (((x6 : Int) = 0 → (wD_grow_131 R Q l6 H4 G5)) ∧ (¬ ((x6 : Int) = 0) → (wD_grow_127 R Q l6 H4 G5)))) l6 l8 s0 l5 H G)))))
def wD_grow_21 (R : Int → Int → Int → e3_H → e3_G → (Int → e3_H → e3_G → Prop) → Prop) (Q : Int → e3_H → e3_G → Prop) (l1 : Int) (l5 : Int) (s0 : Int) (H : e3_H) (G : e3_G) : Prop :=
  (((s0 : Int) < 0 → Q 0 H G) ∧ (¬ ((s0 : Int) < 0) → (wD_stillPossible (fun x3 H1 G2 => (((x3 : Int) = 0 → (wD_grow_134 R Q s0 1 H1 G2)) ∧ (¬ ((x3 : Int) = 0) → (wJ_numberOfTrailingZeros (fun x6 H4 G5 => (e3_ob G5 8 (H4 16 2)) ∧ (wF_rowAt (fun x9 H7 G8 => (((x9 : Int) < 0 → (wD_grow_82 R Q l5 s0 x3 x6 x9 (-1) H7 G8)) ∧ (¬ ((x9 : Int) < 0) → (wD_chosenPlace (fun x12 H10 G11 => (wD_grow_82 R Q l5 s0 x3 x6 x9 x12 H10 G11)) x9 x3 H7 G8)))) (H4 16 2) x6 H4 G5)) x3 H1 G2)))) l1 H G)))
def wD_grow : Nat → Int → Int → Int → e3_H → e3_G → (Int → e3_H → e3_G → Prop) → Prop
  | 0, _, _, _, _, _, _ => False
  | n + 1, l1, l3, l5, H, G, Q => (((120 : Int) < l5 → (wD_grow_21 (wD_grow n) Q l1 l5 (-1) H G)) ∧ (¬ ((120 : Int) < l5) → (e3_ob G 5 (H 16 1)) ∧ (wE_begin (fun x3 H1 G2 => (wD_grow_21 (wD_grow n) Q l1 l5 x3 H1 G2)) (H 16 1) l3 l5 H G)))
set_option maxRecDepth 100000 in
set_option maxHeartbeats 4000000 in
theorem sD_grow_134 (L : Nat) (xs : Nat → Int32) (n : Nat) (R : Int → Int → Int → e3_H → e3_G → (Int → e3_H → e3_G → Prop) → Prop) (hR : ∀ (l1 : Int) (l3 : Int) (l5 : Int) (H : e3_H) (G : e3_G) (Q : Int → e3_H → e3_G → Prop), R l1 l3 l5 H G Q → e3_Ev (wB L xs) (6 + 3 * n) (148 + 81 * n) 98 0 [(2, 16), (1, l1), (3, 0), (1, l3), (3, 0), (0, l5), (3, 0), (3, 0), (3, 0), (3, 0), (3, 0), (3, 0), (3, 0)] [] H G (e3_q0 Q)) (Q : Int → e3_H → e3_G → Prop) (l6 : Int) (l7 : Int) (H : e3_H) (G : e3_G) (h : wD_grow_134 R Q l6 l7 H G) : e3_Ev (wB L xs) (6 + 3 * (n + 1)) (148 + 81 * (n + 1)) 98 134 [(2, 16), (3, 0), (3, 0), (3, 0), (3, 0), (3, 0), (0, l6), (0, l7), (3, 0), (3, 0), (3, 0), (3, 0), (3, 0)] [] H G (e3_q0 Q) := by
  unfold wD_grow_134 at h
  refine e3_K [0, 2, 0] 140 [(2, 16), (3, 0), (3, 0), (3, 0), (3, 0), (3, 0), (0, l6), (0, l7), (3, 0), (3, 0), (3, 0), (3, 0), (3, 0)] [(0, l6), (2, (H 16 1))] (H) (G) (wZ L xs) (M := tbM98) rfl rfl ⟨trivial, trivial⟩ ?_
  obtain ⟨oz, h⟩ := h
  refine e3_call (o := 1) (k := 124) (M2 := tbM124) (f1 := 1) (w1 := 21) (as := [(2, (H 16 1)), (0, l6)]) (rest := []) (M := tbM98) rfl rfl rfl oz (by omega) (by show 21 + (19 + 2) ≤ (148 + 81 * (n + 1)); omega) (Nat.le_of_ble_eq_true rfl) ?_
  refine e3_mono (sE_end L xs _ _ _ _ _ h) (fun r H1 G2 h => ?_)
  obtain ⟨rfl, h⟩ := h
  change e3_Ev _ _ _ _ 143 [(2, 16), (3, 0), (3, 0), (3, 0), (3, 0), (3, 0), (0, l6), (0, l7), (3, 0), (3, 0), (3, 0), (3, 0), (3, 0)] [] H1 G2 _
  refine e3_K [0] 145 [(2, 16), (3, 0), (3, 0), (3, 0), (3, 0), (3, 0), (0, l6), (0, l7), (3, 0), (3, 0), (3, 0), (3, 0), (3, 0)] [(0, l7)] (H1) (G2) (wZ L xs) (M := tbM98) rfl rfl trivial ?_
  exact e3_retb (M := tbM98) rfl rfl rfl h.1 ⟨_, rfl, h.2⟩
set_option maxRecDepth 100000 in
set_option maxHeartbeats 4000000 in
theorem sD_grow_132 (L : Nat) (xs : Nat → Int32) (n : Nat) (R : Int → Int → Int → e3_H → e3_G → (Int → e3_H → e3_G → Prop) → Prop) (hR : ∀ (l1 : Int) (l3 : Int) (l5 : Int) (H : e3_H) (G : e3_G) (Q : Int → e3_H → e3_G → Prop), R l1 l3 l5 H G Q → e3_Ev (wB L xs) (6 + 3 * n) (148 + 81 * n) 98 0 [(2, 16), (1, l1), (3, 0), (1, l3), (3, 0), (0, l5), (3, 0), (3, 0), (3, 0), (3, 0), (3, 0), (3, 0), (3, 0)] [] H G (e3_q0 Q)) (Q : Int → e3_H → e3_G → Prop) (l6 : Int) (s0 : Int) (H : e3_H) (G : e3_G) (h : wD_grow_132 R Q l6 s0 H G) : e3_Ev (wB L xs) (6 + 3 * (n + 1)) (148 + 81 * (n + 1)) 98 132 [(2, 16), (3, 0), (3, 0), (3, 0), (3, 0), (3, 0), (0, l6), (3, 0), (3, 0), (3, 0), (3, 0), (3, 0), (3, 0)] [(0, s0)] H G (e3_q0 Q) := by
  unfold wD_grow_132 at h
  refine e3_K [0] 134 [(2, 16), (3, 0), (3, 0), (3, 0), (3, 0), (3, 0), (0, l6), (0, s0), (3, 0), (3, 0), (3, 0), (3, 0), (3, 0)] [] (H) (G) (wZ L xs) (M := tbM98) rfl rfl trivial ?_
  exact sD_grow_134 L xs n R hR Q _ _ _ _ h
set_option maxRecDepth 100000 in
set_option maxHeartbeats 4000000 in
theorem sD_grow_127 (L : Nat) (xs : Nat → Int32) (n : Nat) (R : Int → Int → Int → e3_H → e3_G → (Int → e3_H → e3_G → Prop) → Prop) (hR : ∀ (l1 : Int) (l3 : Int) (l5 : Int) (H : e3_H) (G : e3_G) (Q : Int → e3_H → e3_G → Prop), R l1 l3 l5 H G Q → e3_Ev (wB L xs) (6 + 3 * n) (148 + 81 * n) 98 0 [(2, 16), (1, l1), (3, 0), (1, l3), (3, 0), (0, l5), (3, 0), (3, 0), (3, 0), (3, 0), (3, 0), (3, 0), (3, 0)] [] H G (e3_q0 Q)) (Q : Int → e3_H → e3_G → Prop) (l6 : Int) (H : e3_H) (G : e3_G) (h : wD_grow_127 R Q l6 H G) : e3_Ev (wB L xs) (6 + 3 * (n + 1)) (148 + 81 * (n + 1)) 98 127 [(2, 16), (3, 0), (3, 0), (3, 0), (3, 0), (3, 0), (0, l6), (3, 0), (3, 0), (3, 0), (3, 0), (3, 0), (3, 0)] [] H G (e3_q0 Q) := by
  unfold wD_grow_127 at h
  refine e3_K [0, 0] 132 [(2, 16), (3, 0), (3, 0), (3, 0), (3, 0), (3, 0), (0, l6), (3, 0), (3, 0), (3, 0), (3, 0), (3, 0), (3, 0)] [(0, 1)] (H) (G) (wZ L xs) (M := tbM98) rfl rfl trivial ?_
  exact sD_grow_132 L xs n R hR Q _ _ _ _ h
set_option maxRecDepth 100000 in
set_option maxHeartbeats 4000000 in
theorem sD_grow_131 (L : Nat) (xs : Nat → Int32) (n : Nat) (R : Int → Int → Int → e3_H → e3_G → (Int → e3_H → e3_G → Prop) → Prop) (hR : ∀ (l1 : Int) (l3 : Int) (l5 : Int) (H : e3_H) (G : e3_G) (Q : Int → e3_H → e3_G → Prop), R l1 l3 l5 H G Q → e3_Ev (wB L xs) (6 + 3 * n) (148 + 81 * n) 98 0 [(2, 16), (1, l1), (3, 0), (1, l3), (3, 0), (0, l5), (3, 0), (3, 0), (3, 0), (3, 0), (3, 0), (3, 0), (3, 0)] [] H G (e3_q0 Q)) (Q : Int → e3_H → e3_G → Prop) (l6 : Int) (H : e3_H) (G : e3_G) (h : wD_grow_131 R Q l6 H G) : e3_Ev (wB L xs) (6 + 3 * (n + 1)) (148 + 81 * (n + 1)) 98 131 [(2, 16), (3, 0), (3, 0), (3, 0), (3, 0), (3, 0), (0, l6), (3, 0), (3, 0), (3, 0), (3, 0), (3, 0), (3, 0)] [] H G (e3_q0 Q) := by
  unfold wD_grow_131 at h
  refine e3_K [0] 132 [(2, 16), (3, 0), (3, 0), (3, 0), (3, 0), (3, 0), (0, l6), (3, 0), (3, 0), (3, 0), (3, 0), (3, 0), (3, 0)] [(0, 0)] (H) (G) (wZ L xs) (M := tbM98) rfl rfl trivial ?_
  exact sD_grow_132 L xs n R hR Q _ _ _ _ h
set_option maxRecDepth 100000 in
set_option maxHeartbeats 4000000 in
theorem sD_grow_82 (L : Nat) (xs : Nat → Int32) (n : Nat) (R : Int → Int → Int → e3_H → e3_G → (Int → e3_H → e3_G → Prop) → Prop) (hR : ∀ (l1 : Int) (l3 : Int) (l5 : Int) (H : e3_H) (G : e3_G) (Q : Int → e3_H → e3_G → Prop), R l1 l3 l5 H G Q → e3_Ev (wB L xs) (6 + 3 * n) (148 + 81 * n) 98 0 [(2, 16), (1, l1), (3, 0), (1, l3), (3, 0), (0, l5), (3, 0), (3, 0), (3, 0), (3, 0), (3, 0), (3, 0), (3, 0)] [] H G (e3_q0 Q)) (Q : Int → e3_H → e3_G → Prop) (l5 : Int) (l6 : Int) (l8 : Int) (l10 : Int) (l11 : Int) (s0 : Int) (H : e3_H) (G : e3_G) (h : wD_grow_82 R Q l5 l6 l8 l10 l11 s0 H G) : e3_Ev (wB L xs) (6 + 3 * (n + 1)) (148 + 81 * (n + 1)) 98 82 [(2, 16), (3, 0), (3, 0), (3, 0), (3, 0), (0, l5), (0, l6), (3, 0), (1, l8), (3, 0), (0, l10), (2, l11), (3, 0)] [(0, s0)] H G (e3_q0 Q) := by
  unfold wD_grow_82 at h
  refine e3_K [0, 0] 86 [(2, 16), (3, 0), (3, 0), (3, 0), (3, 0), (0, l5), (0, l6), (3, 0), (1, l8), (3, 0), (0, l10), (2, l11), (0, s0)] [(2, l11)] (H) (G) (wZ L xs) (M := tbM98) rfl rfl trivial ?_
  refine e3_br (M := tbM98) rfl rfl rfl Iff.rfl (fun hc => ?_) (fun hc => ?_)
  · replace h := h.1 hc
    refine e3_fgt [true, false, false, false, false, false, true, false, false, false, false, false, false] ?_
    exact sD_grow_127 L xs n R hR Q _ _ _ h
  · replace h := h.2 hc
    refine e3_K [0] 91 [(2, 16), (3, 0), (3, 0), (3, 0), (3, 0), (0, l5), (0, l6), (3, 0), (1, l8), (3, 0), (0, l10), (2, l11), (0, s0)] [(0, s0)] (H) (G) (wZ L xs) (M := tbM98) rfl rfl trivial ?_
    refine e3_br (M := tbM98) rfl rfl rfl Iff.rfl (fun hc => ?_) (fun hc => ?_)
    · replace h := h.1 hc
      refine e3_K [0, 0, 0, 0, 0] 103 [(2, 16), (3, 0), (3, 0), (3, 0), (3, 0), (0, l5), (0, l6), (3, 0), (1, l8), (3, 0), (0, l10), (2, l11), (0, s0)] [(0, l5), (0, l10), (1, l8), (0, l6), (2, 16)] (H) (G) (wZ L xs) (M := tbM98) rfl rfl trivial ?_
      refine e3_call (o := 0) (k := 118) (M2 := tbM118) (f1 := (7 + 3 * n)) (w1 := (180 + 81 * n)) (as := [(2, 16), (0, l6), (1, l8), (0, l10), (0, l5)]) (rest := []) (M := tbM98) rfl rfl rfl trivial (by omega) (by show (180 + 81 * n) + (19 + 7) ≤ (148 + 81 * (n + 1)); omega) (Nat.le_of_ble_eq_true rfl) ?_
      refine e3_mono (sD_settle L xs n R hR _ _ _ _ _ _ _ h) (fun r H1 G2 h => ?_)
      obtain ⟨x3, rfl, h⟩ := h
      change e3_Ev _ _ _ _ 106 [(2, 16), (3, 0), (3, 0), (3, 0), (3, 0), (0, l5), (0, l6), (3, 0), (1, l8), (3, 0), (0, l10), (2, l11), (0, s0)] [(0, x3)] H1 G2 _
      refine e3_br (M := tbM98) rfl rfl rfl Iff.rfl (fun hc => ?_) (fun hc => ?_)
      · replace h := h.1 hc
        refine e3_fgt [true, false, false, false, false, false, true, false, false, false, false, false, false] ?_
        exact sD_grow_131 L xs n R hR Q _ _ _ h
      · replace h := h.2 hc
        refine e3_K [0] 127 [(2, 16), (3, 0), (3, 0), (3, 0), (3, 0), (0, l5), (0, l6), (3, 0), (1, l8), (3, 0), (0, l10), (2, l11), (0, s0)] [] (H1) (G2) (wZ L xs) (M := tbM98) rfl rfl trivial ?_
        refine e3_fgt [true, false, false, false, false, false, true, false, false, false, false, false, false] ?_
        exact sD_grow_127 L xs n R hR Q _ _ _ h
    · replace h := h.2 hc
      refine e3_K [0, 0, 0, 0, 0] 121 [(2, 16), (3, 0), (3, 0), (3, 0), (3, 0), (0, l5), (0, l6), (3, 0), (1, l8), (3, 0), (0, l10), (2, l11), (0, s0)] [(0, l5), (0, s0), (1, l8), (0, l6), (2, 16)] (H) (G) (wZ L xs) (M := tbM98) rfl rfl trivial ?_
      refine e3_call (o := 0) (k := 122) (M2 := tbM122) (f1 := (7 + 3 * n)) (w1 := (180 + 81 * n)) (as := [(2, 16), (0, l6), (1, l8), (0, s0), (0, l5)]) (rest := []) (M := tbM98) rfl rfl rfl trivial (by omega) (by show (180 + 81 * n) + (19 + 11) ≤ (148 + 81 * (n + 1)); omega) (Nat.le_of_ble_eq_true rfl) ?_
      refine e3_mono (sD_split L xs n R hR _ _ _ _ _ _ _ h) (fun r H4 G5 h => ?_)
      obtain ⟨x6, rfl, h⟩ := h
      change e3_Ev _ _ _ _ 124 [(2, 16), (3, 0), (3, 0), (3, 0), (3, 0), (0, l5), (0, l6), (3, 0), (1, l8), (3, 0), (0, l10), (2, l11), (0, s0)] [(0, x6)] H4 G5 _
      refine e3_br (M := tbM98) rfl rfl rfl Iff.rfl (fun hc => ?_) (fun hc => ?_)
      · replace h := h.1 hc
        refine e3_fgt [true, false, false, false, false, false, true, false, false, false, false, false, false] ?_
        exact sD_grow_131 L xs n R hR Q _ _ _ h
      · replace h := h.2 hc
        refine e3_fgt [true, false, false, false, false, false, true, false, false, false, false, false, false] ?_
        exact sD_grow_127 L xs n R hR Q _ _ _ h
set_option maxRecDepth 100000 in
set_option maxHeartbeats 4000000 in
theorem sD_grow_21 (L : Nat) (xs : Nat → Int32) (n : Nat) (R : Int → Int → Int → e3_H → e3_G → (Int → e3_H → e3_G → Prop) → Prop) (hR : ∀ (l1 : Int) (l3 : Int) (l5 : Int) (H : e3_H) (G : e3_G) (Q : Int → e3_H → e3_G → Prop), R l1 l3 l5 H G Q → e3_Ev (wB L xs) (6 + 3 * n) (148 + 81 * n) 98 0 [(2, 16), (1, l1), (3, 0), (1, l3), (3, 0), (0, l5), (3, 0), (3, 0), (3, 0), (3, 0), (3, 0), (3, 0), (3, 0)] [] H G (e3_q0 Q)) (Q : Int → e3_H → e3_G → Prop) (l1 : Int) (l5 : Int) (s0 : Int) (H : e3_H) (G : e3_G) (h : wD_grow_21 R Q l1 l5 s0 H G) : e3_Ev (wB L xs) (6 + 3 * (n + 1)) (148 + 81 * (n + 1)) 98 21 [(2, 16), (1, l1), (3, 0), (3, 0), (3, 0), (0, l5), (3, 0), (3, 0), (3, 0), (3, 0), (3, 0), (3, 0), (3, 0)] [(0, s0)] H G (e3_q0 Q) := by
  unfold wD_grow_21 at h
  refine e3_K [0, 0] 25 [(2, 16), (1, l1), (3, 0), (3, 0), (3, 0), (0, l5), (0, s0), (3, 0), (3, 0), (3, 0), (3, 0), (3, 0), (3, 0)] [(0, s0)] (H) (G) (wZ L xs) (M := tbM98) rfl rfl trivial ?_
  refine e3_br (M := tbM98) rfl rfl rfl Iff.rfl (fun hc => ?_) (fun hc => ?_)
  · replace h := h.1 hc
    refine e3_K [0] 29 [(2, 16), (1, l1), (3, 0), (3, 0), (3, 0), (0, l5), (0, s0), (3, 0), (3, 0), (3, 0), (3, 0), (3, 0), (3, 0)] [(0, 0)] (H) (G) (wZ L xs) (M := tbM98) rfl rfl trivial ?_
    exact e3_retb (M := tbM98) rfl rfl rfl (Or.inl rfl) ⟨_, rfl, h⟩
  · replace h := h.2 hc
    refine e3_K [0, 0, 0, 0] 35 [(2, 16), (1, l1), (3, 0), (3, 0), (3, 0), (0, l5), (0, s0), (0, 1), (3, 0), (3, 0), (3, 0), (3, 0), (3, 0)] [(1, l1), (2, 16)] (H) (G) (wZ L xs) (M := tbM98) rfl rfl trivial ?_
    refine e3_call (o := 0) (k := 100) (M2 := tbM100) (f1 := 3) (w1 := 70) (as := [(2, 16), (1, l1)]) (rest := []) (M := tbM98) rfl rfl rfl trivial (by omega) (by show 70 + (19 + 6) ≤ (148 + 81 * (n + 1)); omega) (Nat.le_of_ble_eq_true rfl) ?_
    refine e3_mono (sD_stillPossible L xs _ _ _ _ h) (fun r H1 G2 h => ?_)
    obtain ⟨x3, rfl, h⟩ := h
    change e3_Ev _ _ _ _ 38 [(2, 16), (1, l1), (3, 0), (3, 0), (3, 0), (0, l5), (0, s0), (0, 1), (3, 0), (3, 0), (3, 0), (3, 0), (3, 0)] [(1, x3)] H1 G2 _
    refine e3_K [0, 0, 0, 0] 44 [(2, 16), (1, l1), (3, 0), (3, 0), (3, 0), (0, l5), (0, s0), (0, 1), (1, x3), (3, 0), (3, 0), (3, 0), (3, 0)] [(0, (e3_cmp x3 0))] (H1) (G2) (wZ L xs) (M := tbM98) rfl rfl trivial ?_
    refine e3_br (M := tbM98) rfl rfl rfl e3_cmp_eq (fun hc => ?_) (fun hc => ?_)
    · replace h := h.1 hc
      refine e3_fgt [true, false, false, false, false, false, true, true, false, false, false, false, false] ?_
      exact sD_grow_134 L xs n R hR Q _ _ _ _ h
    · replace h := h.2 hc
      refine e3_K [0] 49 [(2, 16), (1, l1), (3, 0), (3, 0), (3, 0), (0, l5), (0, s0), (0, 1), (1, x3), (3, 0), (3, 0), (3, 0), (3, 0)] [(1, x3)] (H1) (G2) (wZ L xs) (M := tbM98) rfl rfl trivial ?_
      refine e3_call (o := 0) (k := 306) (M2 := tbM306) (f1 := 1) (w1 := 21) (as := [(1, x3)]) (rest := []) (M := tbM98) rfl rfl rfl trivial (by omega) (by show 21 + (19 + 3) ≤ (148 + 81 * (n + 1)); omega) (Nat.le_of_ble_eq_true rfl) ?_
      refine e3_mono (sJ_numberOfTrailingZeros L xs _ _ _ _ h) (fun r H4 G5 h => ?_)
      obtain ⟨x6, rfl, h⟩ := h
      change e3_Ev _ _ _ _ 52 [(2, 16), (1, l1), (3, 0), (3, 0), (3, 0), (0, l5), (0, s0), (0, 1), (1, x3), (3, 0), (3, 0), (3, 0), (3, 0)] [(0, x6)] H4 G5 _
      refine e3_K [0, 0, 2, 0] 60 [(2, 16), (1, l1), (3, 0), (3, 0), (3, 0), (0, l5), (0, s0), (0, 1), (1, x3), (3, 0), (0, x6), (3, 0), (3, 0)] [(0, x6), (2, (H4 16 2))] (H4) (G5) (wZ L xs) (M := tbM98) rfl rfl ⟨trivial, trivial⟩ ?_
      obtain ⟨oz, h⟩ := h
      refine e3_call (o := 1) (k := 104) (M2 := tbM104) (f1 := 0) (w1 := 0) (as := [(2, (H4 16 2)), (0, x6)]) (rest := []) (M := tbM98) rfl rfl rfl oz (by omega) (by show 0 + (19 + 2) ≤ (148 + 81 * (n + 1)); omega) (Nat.le_of_ble_eq_true rfl) ?_
      refine e3_mono (sF_rowAt L xs _ _ _ _ _ h) (fun r H7 G8 h => ?_)
      obtain ⟨x9, rfl, h⟩ := h
      change e3_Ev _ _ _ _ 63 [(2, 16), (1, l1), (3, 0), (3, 0), (3, 0), (0, l5), (0, s0), (0, 1), (1, x3), (3, 0), (0, x6), (3, 0), (3, 0)] [(2, x9)] H7 G8 _
      refine e3_K [0, 0] 67 [(2, 16), (1, l1), (3, 0), (3, 0), (3, 0), (0, l5), (0, s0), (0, 1), (1, x3), (3, 0), (0, x6), (2, x9), (3, 0)] [(2, x9)] (H7) (G8) (wZ L xs) (M := tbM98) rfl rfl trivial ?_
      refine e3_br (M := tbM98) rfl rfl rfl Iff.rfl (fun hc => ?_) (fun hc => ?_)
      · replace h := h.1 hc
        refine e3_K [0, 0] 82 [(2, 16), (1, l1), (3, 0), (3, 0), (3, 0), (0, l5), (0, s0), (0, 1), (1, x3), (3, 0), (0, x6), (2, x9), (3, 0)] [(0, (-1))] (H7) (G8) (wZ L xs) (M := tbM98) rfl rfl trivial ?_
        refine e3_fgt [true, false, false, false, false, true, true, false, true, false, true, true, false] ?_
        exact sD_grow_82 L xs n R hR Q _ _ _ _ _ _ _ _ h
      · replace h := h.2 hc
        refine e3_K [0, 0, 0] 79 [(2, 16), (1, l1), (3, 0), (3, 0), (3, 0), (0, l5), (0, s0), (0, 1), (1, x3), (3, 0), (0, x6), (2, x9), (3, 0)] [(1, x3), (2, x9), (2, 16)] (H7) (G8) (wZ L xs) (M := tbM98) rfl rfl trivial ?_
        refine e3_call (o := 0) (k := 105) (M2 := tbM105) (f1 := 4) (w1 := 101) (as := [(2, 16), (2, x9), (1, x3)]) (rest := []) (M := tbM98) rfl rfl rfl trivial (by omega) (by show 101 + (19 + 9) ≤ (148 + 81 * (n + 1)); omega) (Nat.le_of_ble_eq_true rfl) ?_
        refine e3_mono (sD_chosenPlace L xs _ _ _ _ _ h) (fun r H10 G11 h => ?_)
        obtain ⟨x12, rfl, h⟩ := h
        change e3_Ev _ _ _ _ 82 [(2, 16), (1, l1), (3, 0), (3, 0), (3, 0), (0, l5), (0, s0), (0, 1), (1, x3), (3, 0), (0, x6), (2, x9), (3, 0)] [(0, x12)] H10 G11 _
        refine e3_fgt [true, false, false, false, false, true, true, false, true, false, true, true, false] ?_
        exact sD_grow_82 L xs n R hR Q _ _ _ _ _ _ _ _ h
set_option maxRecDepth 100000 in
set_option maxHeartbeats 4000000 in
theorem sD_grow (L : Nat) (xs : Nat → Int32) : ∀ (n : Nat) (l1 : Int) (l3 : Int) (l5 : Int) (H : e3_H) (G : e3_G) (Q : Int → e3_H → e3_G → Prop), wD_grow n l1 l3 l5 H G Q → e3_Ev (wB L xs) (6 + 3 * n) (148 + 81 * n) 98 0 [(2, 16), (1, l1), (3, 0), (1, l3), (3, 0), (0, l5), (3, 0), (3, 0), (3, 0), (3, 0), (3, 0), (3, 0), (3, 0)] [] H G (e3_q0 Q) := by
  intro n
  induction n with
  | zero => intro l1 l3 l5 H G Q h; exact h.elim
  | succ n hR =>
    intro l1 l3 l5 H G Q h
    have h : (((120 : Int) < l5 → (wD_grow_21 (wD_grow n) Q l1 l5 (-1) H G)) ∧ (¬ ((120 : Int) < l5) → (e3_ob G 5 (H 16 1)) ∧ (wE_begin (fun x3 H1 G2 => (wD_grow_21 (wD_grow n) Q l1 l5 x3 H1 G2)) (H 16 1) l3 l5 H G))) := h
    generalize hRR : wD_grow n = R at hR h
    refine e3_K [0, 0] 4 [(2, 16), (1, l1), (3, 0), (1, l3), (3, 0), (0, l5), (3, 0), (3, 0), (3, 0), (3, 0), (3, 0), (3, 0), (3, 0)] [(0, 120), (0, l5)] (H) (G) (wZ L xs) (M := tbM98) rfl rfl trivial ?_
    refine e3_br (M := tbM98) rfl rfl rfl Iff.rfl (fun hc => ?_) (fun hc => ?_)
    · replace h := h.1 hc
      refine e3_K [0, 0] 21 [(2, 16), (1, l1), (3, 0), (1, l3), (3, 0), (0, l5), (3, 0), (3, 0), (3, 0), (3, 0), (3, 0), (3, 0), (3, 0)] [(0, (-1))] (H) (G) (wZ L xs) (M := tbM98) rfl rfl trivial ?_
      refine e3_fgt [true, true, false, false, false, true, false, false, false, false, false, false, false] ?_
      exact sD_grow_21 L xs n R hR Q _ _ _ _ _ h
    · replace h := h.2 hc
      refine e3_K [0, 2, 0, 0] 18 [(2, 16), (1, l1), (3, 0), (1, l3), (3, 0), (0, l5), (3, 0), (3, 0), (3, 0), (3, 0), (3, 0), (3, 0), (3, 0)] [(0, l5), (1, l3), (2, (H 16 1))] (H) (G) (wZ L xs) (M := tbM98) rfl rfl ⟨trivial, trivial⟩ ?_
      obtain ⟨oz, h⟩ := h
      refine e3_call (o := 1) (k := 99) (M2 := tbM99) (f1 := 1) (w1 := 21) (as := [(2, (H 16 1)), (1, l3), (0, l5)]) (rest := []) (M := tbM98) rfl rfl rfl oz (by omega) (by show 21 + (19 + 5) ≤ (148 + 81 * (n + 1)); omega) (Nat.le_of_ble_eq_true rfl) ?_
      refine e3_mono (sE_begin L xs _ _ _ _ _ _ h) (fun r H1 G2 h => ?_)
      obtain ⟨x3, rfl, h⟩ := h
      change e3_Ev _ _ _ _ 21 [(2, 16), (1, l1), (3, 0), (1, l3), (3, 0), (0, l5), (3, 0), (3, 0), (3, 0), (3, 0), (3, 0), (3, 0), (3, 0)] [(0, x3)] H1 G2 _
      refine e3_fgt [true, true, false, false, false, true, false, false, false, false, false, false, false] ?_
      exact sD_grow_21 L xs n R hR Q _ _ _ _ _ h
/-- LetterPost$TreeMaker.draw(LLetterPost$Function;IJ)Z -/
def wD_draw_32 (Q : Int → e3_H → e3_G → Prop) (l2 : Int) (l3 : Int) (H : e3_H) (G : e3_G) : Prop :=
  (wJ_fill_AJJ (fun H1 G2 => ∀ H4 : e3_H, H4 = e3_up H1 16 6 0 → ∀ H5 : e3_H, H5 = e3_up H4 16 7 1 → (e3_ob G2 5 (H5 16 1)) ∧ (wE_clear (fun H6 G7 => (wD_grow 123 l3 0 1 H6 G7 (fun x11 H9 G10 => ((x11 : Int) = 0 ∨ x11 = 1) ∧ Q x11 H9 G10))) (H5 16 1) l2 (H5 8 0) H5 G2)) (H 16 4) ((-9223372036854775808 : Int64).toInt) H G)
def wD_draw (Q : Int → e3_H → e3_G → Prop) (l1 : Int) (l2 : Int) (l3 : Int) (H : e3_H) (G : e3_G) : Prop :=
  ∀ H1 : e3_H, H1 = e3_up H 16 2 l1 → ∀ H2 : e3_H, H2 = e3_up H1 16 3 l2 → ((2 : Int) ≤ (H2 16 4) ∧ e3_ln G (H2 16 4) ≤ 2147483647 ∧ ∃ n, G[((H2 16 4) : Int).toNat]? = some (1, n)) ∧ (e3_ob G 8 l1) ∧ ((((e3_ln G (H2 16 4)) : Int) < (H2 l1 7) → (e3_ob G 8 l1) ∧ ((0 : Int) ≤ (H2 l1 7) ∧ (H2 l1 7) ≤ 1000000) ∧ ∀ (H5 : e3_H) (G6 : e3_G), H5 = e3_nw H2 (G.length : Int) (fun _ => 0) → G6 = G ++ [(1, ((H2 l1 7) : Int).toNat)] → ∀ H9 : e3_H, H9 = e3_up H5 16 4 (G.length : Int) → (wD_draw_32 Q l2 l3 H9 G6)) ∧ (¬ (((e3_ln G (H2 16 4)) : Int) < (H2 l1 7)) → (wD_draw_32 Q l2 l3 H2 G)))
set_option maxRecDepth 100000 in
set_option maxHeartbeats 4000000 in
theorem sD_draw_32 (L : Nat) (xs : Nat → Int32) (Q : Int → e3_H → e3_G → Prop) (l2 : Int) (l3 : Int) (H : e3_H) (G : e3_G) (h : wD_draw_32 Q l2 l3 H G) : e3_Ev (wB L xs) 376 10143 96 32 [(2, 16), (3, 0), (0, l2), (1, l3), (3, 0)] [] H G (e3_q0 Q) := by
  unfold wD_draw_32 at h
  refine e3_K [0, 2, 2] 39 [(2, 16), (3, 0), (0, l2), (1, l3), (3, 0)] [(1, ((-9223372036854775808 : Int64).toInt)), (2, (H 16 4))] (H) (G) (wZ L xs) (M := tbM96) rfl rfl ⟨trivial, trivial, trivial⟩ ?_
  refine e3_call (o := 0) (k := 305) (M2 := tbM305) (f1 := 0) (w1 := 0) (as := [(2, (H 16 4)), (1, ((-9223372036854775808 : Int64).toInt))]) (rest := []) (M := tbM96) rfl rfl rfl trivial (Nat.le_of_ble_eq_true rfl) (Nat.le_of_ble_eq_true rfl) (Nat.le_of_ble_eq_true rfl) ?_
  refine e3_mono (sJ_fill_AJJ L xs _ _ _ _ _ h) (fun r H1 G2 h => ?_)
  obtain ⟨rfl, h⟩ := h
  change e3_Ev _ _ _ _ 42 [(2, 16), (3, 0), (0, l2), (1, l3), (3, 0)] [] H1 G2 _
  refine e3_K [0, 0, 2] 47 [(2, 16), (3, 0), (0, l2), (1, l3), (3, 0)] [] (e3_up H1 16 6 0) (G2) (wZ L xs) (M := tbM96) rfl rfl ⟨trivial, trivial⟩ ?_
  generalize hH4 : (e3_up H1 16 6 0) = H4
  replace h := h H4 hH4.symm
  refine e3_K [0, 0, 2] 52 [(2, 16), (3, 0), (0, l2), (1, l3), (3, 0)] [] (e3_up H4 16 7 1) (G2) (wZ L xs) (M := tbM96) rfl rfl ⟨trivial, trivial⟩ ?_
  generalize hH5 : (e3_up H4 16 7 1) = H5
  replace h := h H5 hH5.symm
  refine e3_K [0, 2, 0, 0, 4, 2] 64 [(2, 16), (3, 0), (0, l2), (1, l3), (3, 0)] [(0, (H5 8 0)), (0, l2), (2, (H5 16 1))] (H5) (G2) (wZ L xs) (M := tbM96) rfl rfl ⟨trivial, trivial, trivial, trivial⟩ ?_
  obtain ⟨oz, h⟩ := h
  refine e3_call (o := 1) (k := 97) (M2 := tbM97) (f1 := 0) (w1 := 0) (as := [(2, (H5 16 1)), (0, l2), (0, (H5 8 0))]) (rest := []) (M := tbM96) rfl rfl rfl oz (Nat.le_of_ble_eq_true rfl) (Nat.le_of_ble_eq_true rfl) (Nat.le_of_ble_eq_true rfl) ?_
  refine e3_mono (sE_clear L xs _ _ _ _ _ _ h) (fun r H6 G7 h => ?_)
  obtain ⟨rfl, h⟩ := h
  change e3_Ev _ _ _ _ 67 [(2, 16), (3, 0), (0, l2), (1, l3), (3, 0)] [] H6 G7 _
  refine e3_K [0, 0, 0, 0] 71 [(2, 16), (3, 0), (0, l2), (1, l3), (3, 0)] [(0, 1), (1, 0), (1, l3), (2, 16)] (H6) (G7) (wZ L xs) (M := tbM96) rfl rfl trivial ?_
  refine e3_call (o := 0) (k := 98) (M2 := tbM98) (f1 := (6 + 3 * 123)) (w1 := (148 + 81 * 123)) (as := [(2, 16), (1, l3), (1, 0), (0, 1)]) (rest := []) (M := tbM96) rfl rfl rfl trivial (Nat.le_of_ble_eq_true rfl) (Nat.le_of_ble_eq_true rfl) (Nat.le_of_ble_eq_true rfl) ?_
  refine e3_mono (sD_grow L xs 123 _ _ _ _ _ _ h) (fun r H9 G10 h => ?_)
  obtain ⟨x11, rfl, h⟩ := h
  change e3_Ev _ _ _ _ 74 [(2, 16), (3, 0), (0, l2), (1, l3), (3, 0)] [(0, x11)] H9 G10 _
  exact e3_retb (M := tbM96) rfl rfl rfl h.1 ⟨_, rfl, h.2⟩
set_option maxRecDepth 100000 in
set_option maxHeartbeats 4000000 in
theorem sD_draw (L : Nat) (xs : Nat → Int32) (Q : Int → e3_H → e3_G → Prop) (l1 : Int) (l2 : Int) (l3 : Int) (H : e3_H) (G : e3_G) (h : wD_draw Q l1 l2 l3 H G) : e3_Ev (wB L xs) 376 10143 96 0 [(2, 16), (2, l1), (0, l2), (1, l3), (3, 0)] [] H G (e3_q0 Q) := by
  unfold wD_draw at h
  refine e3_K [0, 0, 2] 5 [(2, 16), (2, l1), (0, l2), (1, l3), (3, 0)] [] (e3_up H 16 2 l1) (G) (wZ L xs) (M := tbM96) rfl rfl ⟨trivial, trivial⟩ ?_
  generalize hH1 : (e3_up H 16 2 l1) = H1
  replace h := h H1 hH1.symm
  refine e3_K [0, 0, 2] 10 [(2, 16), (2, l1), (0, l2), (1, l3), (3, 0)] [] (e3_up H1 16 3 l2) (G) (wZ L xs) (M := tbM96) rfl rfl ⟨trivial, trivial⟩ ?_
  generalize hH2 : (e3_up H1 16 3 l2) = H2
  replace h := h H2 hH2.symm
  obtain ⟨o3, o4, h⟩ := h
  refine e3_K [0, 2, 4, 0, 3] 19 [(2, 16), (2, l1), (0, l2), (1, l3), (3, 0)] [(0, (H2 l1 7)), (0, (e3_ln G (H2 16 4)))] (H2) (G) (wZ L xs) (M := tbM96) rfl rfl ⟨trivial, o3, o4, trivial⟩ ?_
  refine e3_br (M := tbM96) rfl rfl rfl Iff.rfl (fun hc => ?_) (fun hc => ?_)
  · replace h := h.1 hc
    obtain ⟨o7, o8, h⟩ := h
    refine e3_K [0, 0, 3, 2] 29 [(2, 16), (2, l1), (0, l2), (1, l3), (3, 0)] [(2, (G.length : Int)), (2, 16)] (e3_nw H2 (G.length : Int) (fun _ => 0)) (G ++ [(1, ((H2 l1 7) : Int).toNat)]) (wZ L xs) (M := tbM96) rfl rfl ⟨o7, o8, trivial⟩ ?_
    generalize hH5 : (e3_nw H2 (G.length : Int) (fun _ => 0)) = H5
    generalize hG6 : (G ++ [(1, ((H2 l1 7) : Int).toNat)]) = G6
    replace h := h H5 G6 hH5.symm hG6.symm
    refine e3_K [2] 32 [(2, 16), (2, l1), (0, l2), (1, l3), (3, 0)] [] (e3_up H5 16 4 (G.length : Int)) (G6) (wZ L xs) (M := tbM96) rfl rfl ⟨trivial, trivial⟩ ?_
    generalize hH9 : (e3_up H5 16 4 (G.length : Int)) = H9
    replace h := h H9 hH9.symm
    refine e3_fgt [true, false, true, true, false] ?_
    exact sD_draw_32 L xs Q _ _ _ _ h
  · replace h := h.2 hc
    refine e3_fgt [true, false, true, true, false] ?_
    exact sD_draw_32 L xs Q _ _ _ _ h
/-- LetterPost$TreeMaker.handOver(LLetterPost$Function;)V -/
def wD_handOver (Q : e3_H → e3_G → Prop) (l1 : Int) (H : e3_H) (G : e3_G) : Prop :=
  (e3_ob G 8 l1) ∧ (e3_ob G 8 l1) ∧ ∀ H1 : e3_H, H1 = e3_up H l1 10 (H 16 1) → ∀ H4 : e3_H, H4 = e3_up H1 16 1 (H l1 10) → Q H4 G
set_option maxRecDepth 100000 in
set_option maxHeartbeats 4000000 in
theorem sD_handOver (L : Nat) (xs : Nat → Int32) (Q : e3_H → e3_G → Prop) (l1 : Int) (H : e3_H) (G : e3_G) (h : wD_handOver Q l1 H G) : e3_Ev (wB L xs) 0 0 126 0 [(2, 16), (2, l1), (3, 0)] [] H G (e3_qv Q) := by
  unfold wD_handOver at h
  obtain ⟨o2, o3, h⟩ := h
  refine e3_K [0, 3, 0, 0, 0, 2, 3] 13 [(2, 16), (2, l1), (2, (H l1 10))] [] (e3_up H l1 10 (H 16 1)) (G) (wZ L xs) (M := tbM126) rfl rfl ⟨o2, trivial, ⟨o3, trivial⟩, trivial⟩ ?_
  generalize hH1 : (e3_up H l1 10 (H 16 1)) = H1
  replace h := h H1 hH1.symm
  refine e3_K [0, 0, 2] 18 [(2, 16), (2, l1), (2, (H l1 10))] [] (e3_up H1 16 1 (H l1 10)) (G) (wZ L xs) (M := tbM126) rfl rfl ⟨trivial, trivial⟩ ?_
  generalize hH4 : (e3_up H1 16 1 (H l1 10)) = H4
  replace h := h H4 hH4.symm
  exact e3_retv (M := tbM126) rfl rfl rfl ⟨rfl, h⟩
/-- LetterPost.read()I -/
def wP_read_93 (Q : Int → e3_H → e3_G → Prop)  (H : e3_H) (G : e3_G) : Prop :=
  (wR_forgetText (fun H1 G2 => Q (-3) H1 G2) H G)
def wP_read_53 (Q : Int → e3_H → e3_G → Prop) : Nat → Int → e3_H → e3_G → Prop
  | 0, _, _, _ => False
  | nn + 1, l2, H, G => (((l2 : Int) < (H 14 3) → (wR_functionAt (fun x3 H1 G2 => (((x3 : Int) < 0 → (wP_read_93 Q H1 G2)) ∧ (¬ ((x3 : Int) < 0) → (e3_ob G2 8 x3) ∧ (wF_allRows (fun x6 H4 G5 => (wD_draw (fun x9 H7 G8 => (((x9 : Int) = 0 → (wP_read_93 Q H7 G8)) ∧ (¬ ((x9 : Int) = 0) → (wD_handOver (fun H10 G11 => (wP_read_53 Q nn (e3_w32 (l2 + 1)) H10 G11)) x3 H7 G8)))) x3 0 x6 H4 G5)) x3 H1 G2)))) l2 H G)) ∧ (¬ ((l2 : Int) < (H 14 3)) → ∀ H13 : e3_H, H13 = e3_up H 2 6 1 → ∀ H14 : e3_H, H14 = e3_up H13 2 7 (H13 8 0) → Q (H14 14 3) H14 G))
def wP_read (Q : Int → e3_H → e3_G → Prop)  (H : e3_H) (G : e3_G) : Prop :=
  ((((H 2 6) : Int) = 0 → (wR_readText (fun x3 H1 G2 => ∀ H4 : e3_H, H4 = e3_up H1 2 8 (H1 14 4) → (((x3 : Int) = 0 → (wR_forgetText (fun H5 G6 => Q (e3_w32 ((-10) - (H5 14 5))) H5 G6) H4 G2)) ∧ (¬ ((x3 : Int) = 0) → (∃ n, wP_read_53 Q n 0 H4 G2)))) H G)) ∧ (¬ (((H 2 6) : Int) = 0) → Q (-2) H G))
set_option maxRecDepth 100000 in
set_option maxHeartbeats 4000000 in
theorem sP_read_93 (L : Nat) (xs : Nat → Int32) (Q : Int → e3_H → e3_G → Prop)  (H : e3_H) (G : e3_G) (h : wP_read_93 Q  H G) : e3_Ev (wB L xs) 377 10167 11 93 [(2, 2), (3, 0), (3, 0), (3, 0)] [] H G (e3_q0 Q) := by
  unfold wP_read_93 at h
  refine e3_K [0, 4] 97 [(2, 2), (3, 0), (3, 0), (3, 0)] [(2, 14)] (H) (G) (wZ L xs) (M := tbM11) rfl rfl ⟨trivial, trivial⟩ ?_
  refine e3_call (o := 0) (k := 94) (M2 := tbM94) (f1 := 0) (w1 := 0) (as := [(2, 14)]) (rest := []) (M := tbM11) rfl rfl rfl trivial (Nat.le_of_ble_eq_true rfl) (Nat.le_of_ble_eq_true rfl) (Nat.le_of_ble_eq_true rfl) ?_
  refine e3_mono (sR_forgetText L xs _ _ _ h) (fun r H1 G2 h => ?_)
  obtain ⟨rfl, h⟩ := h
  change e3_Ev _ _ _ _ 100 [(2, 2), (3, 0), (3, 0), (3, 0)] [] H1 G2 _
  refine e3_K [0] 102 [(2, 2), (3, 0), (3, 0), (3, 0)] [(0, (-3))] (H1) (G2) (wZ L xs) (M := tbM11) rfl rfl trivial ?_
  exact e3_reti (M := tbM11) rfl rfl rfl ⟨_, rfl, h⟩
set_option maxRecDepth 100000 in
set_option maxHeartbeats 4000000 in
theorem sP_read_53 (L : Nat) (xs : Nat → Int32) (Q : Int → e3_H → e3_G → Prop) : ∀ (nl : Nat) (l2 : Int) (H : e3_H) (G : e3_G), wP_read_53 Q nl l2 H G → e3_Ev (wB L xs) 377 10167 11 53 [(2, 2), (3, 0), (0, l2), (3, 0)] [] H G (e3_q0 Q) := by
  intro nl
  induction nl with
  | zero => intro l2 H G h; exact h.elim
  | succ nn ih =>
    intro l2 H G h
    have h : (((l2 : Int) < (H 14 3) → (wR_functionAt (fun x3 H1 G2 => (((x3 : Int) < 0 → (wP_read_93 Q H1 G2)) ∧ (¬ ((x3 : Int) < 0) → (e3_ob G2 8 x3) ∧ (wF_allRows (fun x6 H4 G5 => (wD_draw (fun x9 H7 G8 => (((x9 : Int) = 0 → (wP_read_93 Q H7 G8)) ∧ (¬ ((x9 : Int) = 0) → (wD_handOver (fun H10 G11 => (wP_read_53 Q nn (e3_w32 (l2 + 1)) H10 G11)) x3 H7 G8)))) x3 0 x6 H4 G5)) x3 H1 G2)))) l2 H G)) ∧ (¬ ((l2 : Int) < (H 14 3)) → ∀ H13 : e3_H, H13 = e3_up H 2 6 1 → ∀ H14 : e3_H, H14 = e3_up H13 2 7 (H13 8 0) → Q (H14 14 3) H14 G)) := h
    refine e3_K [0, 0, 4, 2] 61 [(2, 2), (3, 0), (0, l2), (3, 0)] [(0, (H 14 3)), (0, l2)] (H) (G) (wZ L xs) (M := tbM11) rfl rfl ⟨trivial, trivial, trivial⟩ ?_
    refine e3_br (M := tbM11) rfl rfl rfl Iff.rfl (fun hc => ?_) (fun hc => ?_)
    · replace h := h.1 hc
      refine e3_K [0, 4, 0] 69 [(2, 2), (3, 0), (0, l2), (3, 0)] [(0, l2), (2, 14)] (H) (G) (wZ L xs) (M := tbM11) rfl rfl ⟨trivial, trivial⟩ ?_
      refine e3_call (o := 0) (k := 83) (M2 := tbM83) (f1 := 0) (w1 := 0) (as := [(2, 14), (0, l2)]) (rest := []) (M := tbM11) rfl rfl rfl trivial (Nat.le_of_ble_eq_true rfl) (Nat.le_of_ble_eq_true rfl) (Nat.le_of_ble_eq_true rfl) ?_
      refine e3_mono (sR_functionAt L xs _ _ _ _ h) (fun r H1 G2 h => ?_)
      obtain ⟨x3, rfl, h⟩ := h
      change e3_Ev _ _ _ _ 72 [(2, 2), (3, 0), (0, l2), (3, 0)] [(2, x3)] H1 G2 _
      refine e3_K [0, 0] 74 [(2, 2), (3, 0), (0, l2), (2, x3)] [(2, x3)] (H1) (G2) (wZ L xs) (M := tbM11) rfl rfl trivial ?_
      refine e3_br (M := tbM11) rfl rfl rfl Iff.rfl (fun hc => ?_) (fun hc => ?_)
      · replace h := h.1 hc
        refine e3_fgt [true, false, false, false] ?_
        exact sP_read_93 L xs Q _ _ h
      · replace h := h.2 hc
        refine e3_K [0, 4, 0, 0, 0] 84 [(2, 2), (3, 0), (0, l2), (2, x3)] [(2, x3), (0, 0), (2, x3), (2, 16)] (H1) (G2) (wZ L xs) (M := tbM11) rfl rfl ⟨trivial, trivial⟩ ?_
        obtain ⟨oz, h⟩ := h
        refine e3_call (o := 1) (k := 95) (M2 := tbM95) (f1 := 0) (w1 := 0) (as := [(2, x3)]) (rest := [(0, 0), (2, x3), (2, 16)]) (M := tbM11) rfl rfl rfl oz (Nat.le_of_ble_eq_true rfl) (Nat.le_of_ble_eq_true rfl) (Nat.le_of_ble_eq_true rfl) ?_
        refine e3_mono (sF_allRows L xs _ _ _ _ h) (fun r H4 G5 h => ?_)
        obtain ⟨x6, rfl, h⟩ := h
        change e3_Ev _ _ _ _ 87 [(2, 2), (3, 0), (0, l2), (2, x3)] [(1, x6), (0, 0), (2, x3), (2, 16)] H4 G5 _
        refine e3_call (o := 0) (k := 96) (M2 := tbM96) (f1 := 376) (w1 := 10143) (as := [(2, 16), (2, x3), (0, 0), (1, x6)]) (rest := []) (M := tbM11) rfl rfl rfl trivial (Nat.le_of_ble_eq_true rfl) (Nat.le_of_ble_eq_true rfl) (Nat.le_of_ble_eq_true rfl) ?_
        refine e3_mono (sD_draw L xs _ _ _ _ _ _ h) (fun r H7 G8 h => ?_)
        obtain ⟨x9, rfl, h⟩ := h
        change e3_Ev _ _ _ _ 90 [(2, 2), (3, 0), (0, l2), (2, x3)] [(0, x9)] H7 G8 _
        refine e3_br (M := tbM11) rfl rfl rfl Iff.rfl (fun hc => ?_) (fun hc => ?_)
        · replace h := h.1 hc
          refine e3_fgt [true, false, false, false] ?_
          exact sP_read_93 L xs Q _ _ h
        · replace h := h.2 hc
          refine e3_K [0, 4, 0] 108 [(2, 2), (3, 0), (0, l2), (2, x3)] [(2, x3), (2, 16)] (H7) (G8) (wZ L xs) (M := tbM11) rfl rfl ⟨trivial, trivial⟩ ?_
          refine e3_call (o := 0) (k := 126) (M2 := tbM126) (f1 := 0) (w1 := 0) (as := [(2, 16), (2, x3)]) (rest := []) (M := tbM11) rfl rfl rfl trivial (Nat.le_of_ble_eq_true rfl) (Nat.le_of_ble_eq_true rfl) (Nat.le_of_ble_eq_true rfl) ?_
          refine e3_mono (sD_handOver L xs _ _ _ _ h) (fun r H10 G11 h => ?_)
          obtain ⟨rfl, h⟩ := h
          change e3_Ev _ _ _ _ 111 [(2, 2), (3, 0), (0, l2), (2, x3)] [] H10 G11 _
          refine e3_K [0, 0] 53 [(2, 2), (3, 0), (0, (e3_w32 (l2 + 1))), (2, x3)] [] (H10) (G11) (wZ L xs) (M := tbM11) rfl rfl trivial ?_
          refine e3_fgt [true, false, true, false] ?_
          exact ih _ _ _ h
    · replace h := h.2 hc
      refine e3_K [0, 0, 2] 122 [(2, 2), (3, 0), (0, l2), (3, 0)] [] (e3_up H 2 6 1) (G) (wZ L xs) (M := tbM11) rfl rfl ⟨(Or.inr rfl), trivial⟩ ?_
      generalize hH13 : (e3_up H 2 6 1) = H13
      replace h := h H13 hH13.symm
      refine e3_K [0, 0, 4, 2, 2] 133 [(2, 2), (3, 0), (0, l2), (3, 0)] [] (e3_up H13 2 7 (H13 8 0)) (G) (wZ L xs) (M := tbM11) rfl rfl ⟨trivial, trivial, trivial, trivial⟩ ?_
      generalize hH14 : (e3_up H13 2 7 (H13 8 0)) = H14
      replace h := h H14 hH14.symm
      refine e3_K [0, 4, 2] 140 [(2, 2), (3, 0), (0, l2), (3, 0)] [(0, (H14 14 3))] (H14) (G) (wZ L xs) (M := tbM11) rfl rfl ⟨trivial, trivial, trivial⟩ ?_
      exact e3_reti (M := tbM11) rfl rfl rfl ⟨_, rfl, h⟩
set_option maxRecDepth 100000 in
set_option maxHeartbeats 4000000 in
theorem sP_read (L : Nat) (xs : Nat → Int32) (Q : Int → e3_H → e3_G → Prop)  (H : e3_H) (G : e3_G) (h : wP_read Q  H G) : e3_Ev (wB L xs) 377 10167 11 0 [(2, 2), (3, 0), (3, 0), (3, 0)] [] H G (e3_q0 Q) := by
  unfold wP_read at h
  refine e3_K [0, 2] 4 [(2, 2), (3, 0), (3, 0), (3, 0)] [(0, (H 2 6))] (H) (G) (wZ L xs) (M := tbM11) rfl rfl ⟨trivial, trivial⟩ ?_
  refine e3_br (M := tbM11) rfl rfl rfl Iff.rfl (fun hc => ?_) (fun hc => ?_)
  · replace h := h.1 hc
    refine e3_K [0, 4] 14 [(2, 2), (3, 0), (3, 0), (3, 0)] [(2, 14)] (H) (G) (wZ L xs) (M := tbM11) rfl rfl ⟨trivial, trivial⟩ ?_
    refine e3_call (o := 0) (k := 12) (M2 := tbM12) (f1 := 34) (w1 := 909) (as := [(2, 14)]) (rest := []) (M := tbM11) rfl rfl rfl trivial (Nat.le_of_ble_eq_true rfl) (Nat.le_of_ble_eq_true rfl) (Nat.le_of_ble_eq_true rfl) ?_
    refine e3_mono (sR_readText L xs _ _ _ h) (fun r H1 G2 h => ?_)
    obtain ⟨x3, rfl, h⟩ := h
    change e3_Ev _ _ _ _ 17 [(2, 2), (3, 0), (3, 0), (3, 0)] [(0, x3)] H1 G2 _
    refine e3_K [0, 0, 0, 4, 2, 2] 29 [(2, 2), (0, x3), (3, 0), (3, 0)] [] (e3_up H1 2 8 (H1 14 4)) (G2) (wZ L xs) (M := tbM11) rfl rfl ⟨trivial, trivial, trivial, trivial⟩ ?_
    generalize hH4 : (e3_up H1 2 8 (H1 14 4)) = H4
    replace h := h H4 hH4.symm
    refine e3_K [0] 30 [(2, 2), (0, x3), (3, 0), (3, 0)] [(0, x3)] (H4) (G2) (wZ L xs) (M := tbM11) rfl rfl trivial ?_
    refine e3_br (M := tbM11) rfl rfl rfl Iff.rfl (fun hc => ?_) (fun hc => ?_)
    · replace h := h.1 hc
      refine e3_K [0, 4] 37 [(2, 2), (0, x3), (3, 0), (3, 0)] [(2, 14)] (H4) (G2) (wZ L xs) (M := tbM11) rfl rfl ⟨trivial, trivial⟩ ?_
      refine e3_call (o := 0) (k := 94) (M2 := tbM94) (f1 := 0) (w1 := 0) (as := [(2, 14)]) (rest := []) (M := tbM11) rfl rfl rfl trivial (Nat.le_of_ble_eq_true rfl) (Nat.le_of_ble_eq_true rfl) (Nat.le_of_ble_eq_true rfl) ?_
      refine e3_mono (sR_forgetText L xs _ _ _ h) (fun r H5 G6 h => ?_)
      obtain ⟨rfl, h⟩ := h
      change e3_Ev _ _ _ _ 40 [(2, 2), (0, x3), (3, 0), (3, 0)] [] H5 G6 _
      refine e3_K [0, 0, 4, 2, 0] 50 [(2, 2), (0, x3), (3, 0), (3, 0)] [(0, (e3_w32 ((-10) - (H5 14 5))))] (H5) (G6) (wZ L xs) (M := tbM11) rfl rfl ⟨trivial, trivial, trivial⟩ ?_
      exact e3_reti (M := tbM11) rfl rfl rfl ⟨_, rfl, h⟩
    · replace h := h.2 hc
      refine e3_K [0, 0] 53 [(2, 2), (0, x3), (0, 0), (3, 0)] [] (H4) (G2) (wZ L xs) (M := tbM11) rfl rfl trivial ?_
      refine e3_fgt [true, false, true, false] ?_
      obtain ⟨nl, h⟩ := h
      exact sP_read_53 L xs Q nl _ _ _ h
  · replace h := h.2 hc
    refine e3_K [0] 9 [(2, 2), (3, 0), (3, 0), (3, 0)] [(0, (-2))] (H) (G) (wZ L xs) (M := tbM11) rfl rfl trivial ?_
    exact e3_reti (M := tbM11) rfl rfl rfl ⟨_, rfl, h⟩
/-- LetterPost.fault()I -/
def wP_fault (Q : Int → e3_H → e3_G → Prop)  (H : e3_H) (G : e3_G) : Prop :=
  Q (H 2 8) H G
set_option maxRecDepth 100000 in
set_option maxHeartbeats 4000000 in
theorem sP_fault (L : Nat) (xs : Nat → Int32) (Q : Int → e3_H → e3_G → Prop)  (H : e3_H) (G : e3_G) (h : wP_fault Q  H G) : e3_Ev (wB L xs) 0 0 127 0 [(2, 2)] [] H G (e3_q0 Q) := by
  unfold wP_fault at h
  refine e3_K [0, 2] 4 [(2, 2)] [(0, (H 2 8))] (H) (G) (wZ L xs) (M := tbM127) rfl rfl ⟨trivial, trivial⟩ ?_
  exact e3_reti (M := tbM127) rfl rfl rfl ⟨_, rfl, h⟩
/-- LetterPost$Reader.readLateKind()Z -/
def wR_readLateKind_48 (Q : Int → e3_H → e3_G → Prop) (s0 : Int) (H : e3_H) (G : e3_G) : Prop :=
  ((s0 : Int) = 0 ∨ s0 = 1) ∧ Q s0 H G
def wR_readLateKind_39 (Q : Int → e3_H → e3_G → Prop)  (H : e3_H) (G : e3_G) : Prop :=
  (wR_readLateKind_48 Q 0 H G)
def wR_readLateKind (Q : Int → e3_H → e3_G → Prop)  (H : e3_H) (G : e3_G) : Prop :=
  (wR_begin (fun H1 G2 => ((((H1 3 7) : Int) = 270 → (wR_readKind (fun x6 H4 G5 => (((x6 : Int) = 0 → (wR_readLateKind_39 Q H4 G5)) ∧ (¬ ((x6 : Int) = 0) → (wR_expect (fun x9 H7 G8 => (((x9 : Int) = 0 → (wR_readLateKind_39 Q H7 G8)) ∧ (¬ ((x9 : Int) = 0) → (wR_readLateKind_48 Q 1 H7 G8)))) 256 H4 G5)))) 1 H1 G2)) ∧ (¬ (((H1 3 7) : Int) = 270) → (wR_failHere (fun x12 H10 G11 => (wR_readLateKind_48 Q x12 H10 G11)) 2 H1 G2)))) H G)
set_option maxRecDepth 100000 in
set_option maxHeartbeats 4000000 in
theorem sR_readLateKind_48 (L : Nat) (xs : Nat → Int32) (Q : Int → e3_H → e3_G → Prop) (s0 : Int) (H : e3_H) (G : e3_G) (h : wR_readLateKind_48 Q s0 H G) : e3_Ev (wB L xs) 11 467 129 48 [(3, 0)] [(0, s0)] H G (e3_q0 Q) := by
  unfold wR_readLateKind_48 at h
  exact e3_retb (M := tbM129) rfl rfl rfl h.1 ⟨_, rfl, h.2⟩
set_option maxRecDepth 100000 in
set_option maxHeartbeats 4000000 in
theorem sR_readLateKind_39 (L : Nat) (xs : Nat → Int32) (Q : Int → e3_H → e3_G → Prop)  (H : e3_H) (G : e3_G) (h : wR_readLateKind_39 Q  H G) : e3_Ev (wB L xs) 11 467 129 39 [(3, 0)] [] H G (e3_q0 Q) := by
  unfold wR_readLateKind_39 at h
  refine e3_K [0, 0] 48 [(3, 0)] [(0, 0)] (H) (G) (wZ L xs) (M := tbM129) rfl rfl trivial ?_
  exact sR_readLateKind_48 L xs Q _ _ _ h
set_option maxRecDepth 100000 in
set_option maxHeartbeats 4000000 in
theorem sR_readLateKind (L : Nat) (xs : Nat → Int32) (Q : Int → e3_H → e3_G → Prop)  (H : e3_H) (G : e3_G) (h : wR_readLateKind Q  H G) : e3_Ev (wB L xs) 11 467 129 0 [(2, 14)] [] H G (e3_q0 Q) := by
  unfold wR_readLateKind at h
  refine e3_K [0] 1 [(2, 14)] [(2, 14)] (H) (G) (wZ L xs) (M := tbM129) rfl rfl trivial ?_
  refine e3_call (o := 0) (k := 13) (M2 := tbM13) (f1 := 10) (w1 := 447) (as := [(2, 14)]) (rest := []) (M := tbM129) rfl rfl rfl trivial (Nat.le_of_ble_eq_true rfl) (Nat.le_of_ble_eq_true rfl) (Nat.le_of_ble_eq_true rfl) ?_
  refine e3_mono (sR_begin L xs _ _ _ h) (fun r H1 G2 h => ?_)
  obtain ⟨rfl, h⟩ := h
  change e3_Ev _ _ _ _ 4 [(2, 14)] [] H1 G2 _
  refine e3_K [0, 4, 2, 0] 14 [(2, 14)] [(0, 270), (0, (H1 3 7))] (H1) (G2) (wZ L xs) (M := tbM129) rfl rfl ⟨trivial, trivial, trivial⟩ ?_
  refine e3_br (M := tbM129) rfl rfl rfl Iff.rfl (fun hc => ?_) (fun hc => ?_)
  · replace h := h.1 hc
    refine e3_K [0, 0] 19 [(2, 14)] [(0, 1), (2, 14)] (H1) (G2) (wZ L xs) (M := tbM129) rfl rfl trivial ?_
    refine e3_call (o := 0) (k := 26) (M2 := tbM26) (f1 := 3) (w1 := 67) (as := [(2, 14), (0, 1)]) (rest := []) (M := tbM129) rfl rfl rfl trivial (Nat.le_of_ble_eq_true rfl) (Nat.le_of_ble_eq_true rfl) (Nat.le_of_ble_eq_true rfl) ?_
    refine e3_mono (sR_readKind L xs _ _ _ _ h) (fun r H4 G5 h => ?_)
    obtain ⟨x6, rfl, h⟩ := h
    change e3_Ev _ _ _ _ 22 [(2, 14)] [(0, x6)] H4 G5 _
    refine e3_br (M := tbM129) rfl rfl rfl Iff.rfl (fun hc => ?_) (fun hc => ?_)
    · replace h := h.1 hc
      refine e3_fgt [false] ?_
      exact sR_readLateKind_39 L xs Q _ _ h
    · replace h := h.2 hc
      refine e3_K [0, 0] 29 [(2, 14)] [(0, 256), (2, 14)] (H4) (G5) (wZ L xs) (M := tbM129) rfl rfl trivial ?_
      refine e3_call (o := 0) (k := 38) (M2 := tbM38) (f1 := 1) (w1 := 21) (as := [(2, 14), (0, 256)]) (rest := []) (M := tbM129) rfl rfl rfl trivial (Nat.le_of_ble_eq_true rfl) (Nat.le_of_ble_eq_true rfl) (Nat.le_of_ble_eq_true rfl) ?_
      refine e3_mono (sR_expect L xs _ _ _ _ h) (fun r H7 G8 h => ?_)
      obtain ⟨x9, rfl, h⟩ := h
      change e3_Ev _ _ _ _ 32 [(2, 14)] [(0, x9)] H7 G8 _
      refine e3_br (M := tbM129) rfl rfl rfl Iff.rfl (fun hc => ?_) (fun hc => ?_)
      · replace h := h.1 hc
        refine e3_fgt [false] ?_
        exact sR_readLateKind_39 L xs Q _ _ h
      · replace h := h.2 hc
        refine e3_K [0, 0] 48 [(2, 14)] [(0, 1)] (H7) (G8) (wZ L xs) (M := tbM129) rfl rfl trivial ?_
        refine e3_fgt [false] ?_
        exact sR_readLateKind_48 L xs Q _ _ _ h
  · replace h := h.2 hc
    refine e3_K [0, 0] 45 [(2, 14)] [(0, 2), (2, 14)] (H1) (G2) (wZ L xs) (M := tbM129) rfl rfl trivial ?_
    refine e3_call (o := 0) (k := 27) (M2 := tbM27) (f1 := 0) (w1 := 0) (as := [(2, 14), (0, 2)]) (rest := []) (M := tbM129) rfl rfl rfl trivial (Nat.le_of_ble_eq_true rfl) (Nat.le_of_ble_eq_true rfl) (Nat.le_of_ble_eq_true rfl) ?_
    refine e3_mono (sR_failHere L xs _ _ _ _ h) (fun r H10 G11 h => ?_)
    obtain ⟨x12, rfl, h⟩ := h
    change e3_Ev _ _ _ _ 48 [(2, 14)] [(0, x12)] H10 G11 _
    refine e3_fgt [false] ?_
    exact sR_readLateKind_48 L xs Q _ _ _ h
