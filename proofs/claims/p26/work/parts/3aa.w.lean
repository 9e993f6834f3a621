/-- LetterPost$Tree.<init>()V -/
def wE_init (Q : e3_H → e3_G → Prop) (l0 : Int) (H : e3_H) (G : e3_G) : Prop :=
  ((0 : Int) ≤ l0) ∧ ∀ (H1 : e3_H) (G2 : e3_G), H1 = e3_nw H (G.length : Int) (fun _ => 0) → G2 = G ++ [(0, (120 : Int).toNat)] → (e3_ob G2 5 l0) ∧ ∀ H3 : e3_H, H3 = e3_up H1 l0 4 (G.length : Int) → ∀ (H5 : e3_H) (G6 : e3_G), H5 = e3_nw H3 (G2.length : Int) (fun _ => 0) → G6 = G2 ++ [(0, (120 : Int).toNat)] → (e3_ob G6 5 l0) ∧ ∀ H7 : e3_H, H7 = e3_up H5 l0 5 (G2.length : Int) → ∀ (H9 : e3_H) (G10 : e3_G), H9 = e3_nw H7 (G6.length : Int) (fun _ => 0) → G10 = G6 ++ [(0, (120 : Int).toNat)] → (e3_ob G10 5 l0) ∧ ∀ H11 : e3_H, H11 = e3_up H9 l0 6 (G6.length : Int) → ∀ (H13 : e3_H) (G14 : e3_G), H13 = e3_nw H11 (G10.length : Int) (fun _ => 0) → G14 = G10 ++ [(0, (120 : Int).toNat)] → (e3_ob G14 5 l0) ∧ ∀ H15 : e3_H, H15 = e3_up H13 l0 7 (G10.length : Int) → ∀ (H17 : e3_H) (G18 : e3_G), H17 = e3_nw H15 (G14.length : Int) (fun _ => 0) → G18 = G14 ++ [(0, (120 : Int).toNat)] → (e3_ob G18 5 l0) ∧ ∀ H19 : e3_H, H19 = e3_up H17 l0 8 (G14.length : Int) → ∀ (H21 : e3_H) (G22 : e3_G), H21 = e3_nw H19 (G18.length : Int) (fun _ => 0) → G22 = G18 ++ [(1, (120 : Int).toNat)] → (e3_ob G22 5 l0) ∧ ∀ H23 : e3_H, H23 = e3_up H21 l0 9 (G18.length : Int) → Q H23 G22
set_option maxRecDepth 100000 in
set_option maxHeartbeats 4000000 in
theorem sE_init (L : Nat) (xs : Nat → Int32) (Q : e3_H → e3_G → Prop) (l0 : Int) (H : e3_H) (G : e3_G) (h : wE_init Q l0 H G) : e3_Ev (wB L xs) 1 40 6 0 [(2, l0)] [] H G (e3_qv Q) := by
  unfold wE_init at h
  refine e3_K [0] 1 [(2, l0)] [(2, l0)] (H) (G) (wZ L xs) (M := tbM6) rfl rfl trivial ?_
  obtain ⟨oz, h⟩ := h
  refine e3_oi (M := tbM6) rfl rfl rfl oz (Nat.le_of_ble_eq_true rfl) (Nat.le_of_ble_eq_true rfl) ?_
  refine e3_K [0, 0, 2] 9 [(2, l0)] [(2, (G.length : Int)), (2, l0)] (e3_nw H (G.length : Int) (fun _ => 0)) (G ++ [(0, (120 : Int).toNat)]) (wZ L xs) (M := tbM6) rfl rfl ⟨⟨by decide, by decide⟩, trivial⟩ ?_
  generalize hH1 : (e3_nw H (G.length : Int) (fun _ => 0)) = H1
  generalize hG2 : (G ++ [(0, (120 : Int).toNat)]) = G2
  replace h := h H1 G2 hH1.symm hG2.symm
  obtain ⟨o4, h⟩ := h
  refine e3_K [3] 12 [(2, l0)] [] (e3_up H1 l0 4 (G.length : Int)) (G2) (wZ L xs) (M := tbM6) rfl rfl ⟨⟨o4, trivial⟩, trivial⟩ ?_
  generalize hH3 : (e3_up H1 l0 4 (G.length : Int)) = H3
  replace h := h H3 hH3.symm
  refine e3_K [0, 0, 2] 17 [(2, l0)] [(2, (G2.length : Int)), (2, l0)] (e3_nw H3 (G2.length : Int) (fun _ => 0)) (G2 ++ [(0, (120 : Int).toNat)]) (wZ L xs) (M := tbM6) rfl rfl ⟨⟨by decide, by decide⟩, trivial⟩ ?_
  generalize hH5 : (e3_nw H3 (G2.length : Int) (fun _ => 0)) = H5
  generalize hG6 : (G2 ++ [(0, (120 : Int).toNat)]) = G6
  replace h := h H5 G6 hH5.symm hG6.symm
  obtain ⟨o8, h⟩ := h
  refine e3_K [3] 20 [(2, l0)] [] (e3_up H5 l0 5 (G2.length : Int)) (G6) (wZ L xs) (M := tbM6) rfl rfl ⟨⟨o8, trivial⟩, trivial⟩ ?_
  generalize hH7 : (e3_up H5 l0 5 (G2.length : Int)) = H7
  replace h := h H7 hH7.symm
  refine e3_K [0, 0, 2] 25 [(2, l0)] [(2, (G6.length : Int)), (2, l0)] (e3_nw H7 (G6.length : Int) (fun _ => 0)) (G6 ++ [(0, (120 : Int).toNat)]) (wZ L xs) (M := tbM6) rfl rfl ⟨⟨by decide, by decide⟩, trivial⟩ ?_
  generalize hH9 : (e3_nw H7 (G6.length : Int) (fun _ => 0)) = H9
  generalize hG10 : (G6 ++ [(0, (120 : Int).toNat)]) = G10
  replace h := h H9 G10 hH9.symm hG10.symm
  obtain ⟨o12, h⟩ := h
  refine e3_K [3] 28 [(2, l0)] [] (e3_up H9 l0 6 (G6.length : Int)) (G10) (wZ L xs) (M := tbM6) rfl rfl ⟨⟨o12, trivial⟩, trivial⟩ ?_
  generalize hH11 : (e3_up H9 l0 6 (G6.length : Int)) = H11
  replace h := h H11 hH11.symm
  refine e3_K [0, 0, 2] 33 [(2, l0)] [(2, (G10.length : Int)), (2, l0)] (e3_nw H11 (G10.length : Int) (fun _ => 0)) (G10 ++ [(0, (120 : Int).toNat)]) (wZ L xs) (M := tbM6) rfl rfl ⟨⟨by decide, by decide⟩, trivial⟩ ?_
  generalize hH13 : (e3_nw H11 (G10.length : Int) (fun _ => 0)) = H13
  generalize hG14 : (G10 ++ [(0, (120 : Int).toNat)]) = G14
  replace h := h H13 G14 hH13.symm hG14.symm
  obtain ⟨o16, h⟩ := h
  refine e3_K [3] 36 [(2, l0)] [] (e3_up H13 l0 7 (G10.length : Int)) (G14) (wZ L xs) (M := tbM6) rfl rfl ⟨⟨o16, trivial⟩, trivial⟩ ?_
  generalize hH15 : (e3_up H13 l0 7 (G10.length : Int)) = H15
  replace h := h H15 hH15.symm
  refine e3_K [0, 0, 2] 41 [(2, l0)] [(2, (G14.length : Int)), (2, l0)] (e3_nw H15 (G14.length : Int) (fun _ => 0)) (G14 ++ [(0, (120 : Int).toNat)]) (wZ L xs) (M := tbM6) rfl rfl ⟨⟨by decide, by decide⟩, trivial⟩ ?_
  generalize hH17 : (e3_nw H15 (G14.length : Int) (fun _ => 0)) = H17
  generalize hG18 : (G14 ++ [(0, (120 : Int).toNat)]) = G18
  replace h := h H17 G18 hH17.symm hG18.symm
  obtain ⟨o20, h⟩ := h
  refine e3_K [3] 44 [(2, l0)] [] (e3_up H17 l0 8 (G14.length : Int)) (G18) (wZ L xs) (M := tbM6) rfl rfl ⟨⟨o20, trivial⟩, trivial⟩ ?_
  generalize hH19 : (e3_up H17 l0 8 (G14.length : Int)) = H19
  replace h := h H19 hH19.symm
  refine e3_K [0, 0, 2] 49 [(2, l0)] [(2, (G18.length : Int)), (2, l0)] (e3_nw H19 (G18.length : Int) (fun _ => 0)) (G18 ++ [(1, (120 : Int).toNat)]) (wZ L xs) (M := tbM6) rfl rfl ⟨⟨by decide, by decide⟩, trivial⟩ ?_
  generalize hH21 : (e3_nw H19 (G18.length : Int) (fun _ => 0)) = H21
  generalize hG22 : (G18 ++ [(1, (120 : Int).toNat)]) = G22
  replace h := h H21 G22 hH21.symm hG22.symm
  obtain ⟨o24, h⟩ := h
  refine e3_K [3] 52 [(2, l0)] [] (e3_up H21 l0 9 (G18.length : Int)) (G22) (wZ L xs) (M := tbM6) rfl rfl ⟨⟨o24, trivial⟩, trivial⟩ ?_
  generalize hH23 : (e3_up H21 l0 9 (G18.length : Int)) = H23
  replace h := h H23 hH23.symm
  exact e3_retv (M := tbM6) rfl rfl rfl ⟨rfl, h⟩
/-- LetterPost$Tokens.append(JI)Z -/
def wT_append_19 (Q : Int → e3_H → e3_G → Prop) : Nat → Int → Int → e3_H → e3_G → Prop
  | 0, _, _, _, _ => False
  | nn + 1, l1, l4, H, G => (((l4 : Int) < 0 → Q 1 H G) ∧ (¬ ((l4 : Int) < 0) → ((0 : Int) ≤ (H 3 1) ∧ ((H 3 1) : Int) < 1600) ∧ ∀ H1 : e3_H, H1 = e3_up H 4 (H 3 1) (e3_b (e3_b (e3_w32 (e3_lushr l1 (e3_w32 (8 * l4)))))) → ∀ H3 : e3_H, H3 = e3_up H1 3 1 (e3_w32 ((H1 3 1) + 1)) → (wT_append_19 Q nn l1 (e3_w32 (l4 + (-1))) H3 G)))
def wT_append (Q : Int → e3_H → e3_G → Prop) (l1 : Int) (l3 : Int) (H : e3_H) (G : e3_G) : Prop :=
  (((1600 : Int) < (e3_w32 ((H 3 1) + l3)) → Q 0 H G) ∧ (¬ ((1600 : Int) < (e3_w32 ((H 3 1) + l3))) → (∃ n, wT_append_19 Q n l1 (e3_w32 (l3 - 1)) H G)))
set_option maxRecDepth 100000 in
set_option maxHeartbeats 4000000 in
theorem sT_append_19 (L : Nat) (xs : Nat → Int32) (Q : Int → e3_H → e3_G → Prop) : ∀ (nl : Nat) (l1 : Int) (l4 : Int) (H : e3_H) (G : e3_G), wT_append_19 Q nl l1 l4 H G → e3_Ev (wB L xs) 0 0 10 19 [(2, 3), (1, l1), (3, 0), (3, 0), (0, l4)] [] H G (e3_q0 Q) := by
  intro nl
  induction nl with
  | zero => intro l1 l4 H G h; exact h.elim
  | succ nn ih =>
    intro l1 l4 H G h
    have h : (((l4 : Int) < 0 → Q 1 H G) ∧ (¬ ((l4 : Int) < 0) → ((0 : Int) ≤ (H 3 1) ∧ ((H 3 1) : Int) < 1600) ∧ ∀ H1 : e3_H, H1 = e3_up H 4 (H 3 1) (e3_b (e3_b (e3_w32 (e3_lushr l1 (e3_w32 (8 * l4)))))) → ∀ H3 : e3_H, H3 = e3_up H1 3 1 (e3_w32 ((H1 3 1) + 1)) → (wT_append_19 Q nn l1 (e3_w32 (l4 + (-1))) H3 G))) := h
    refine e3_K [0] 21 [(2, 3), (1, l1), (3, 0), (3, 0), (0, l4)] [(0, l4)] (H) (G) (wZ L xs) (M := tbM10) rfl rfl trivial ?_
    refine e3_br (M := tbM10) rfl rfl rfl Iff.rfl (fun hc => ?_) (fun hc => ?_)
    · replace h := h.1 hc
      refine e3_K [0] 59 [(2, 3), (1, l1), (3, 0), (3, 0), (0, l4)] [(0, 1)] (H) (G) (wZ L xs) (M := tbM10) rfl rfl trivial ?_
      exact e3_retb (M := tbM10) rfl rfl rfl (Or.inr rfl) ⟨_, rfl, h⟩
    · replace h := h.2 hc
      obtain ⟨o2, h⟩ := h
      refine e3_K [0, 4, 0, 2, 0, 0, 0, 0, 0, 0, 0, 2] 42 [(2, 3), (1, l1), (3, 0), (3, 0), (0, l4)] [] (e3_up H 4 (H 3 1) (e3_b (e3_b (e3_w32 (e3_lushr l1 (e3_w32 (8 * l4))))))) (G) (wZ L xs) (M := tbM10) rfl rfl ⟨trivial, trivial, o2, trivial⟩ ?_
      generalize hH1 : (e3_up H 4 (H 3 1) (e3_b (e3_b (e3_w32 (e3_lushr l1 (e3_w32 (8 * l4))))))) = H1
      replace h := h H1 hH1.symm
      refine e3_K [0, 0, 2, 0, 0, 2] 52 [(2, 3), (1, l1), (3, 0), (3, 0), (0, l4)] [] (e3_up H1 3 1 (e3_w32 ((H1 3 1) + 1))) (G) (wZ L xs) (M := tbM10) rfl rfl ⟨trivial, trivial, trivial⟩ ?_
      generalize hH3 : (e3_up H1 3 1 (e3_w32 ((H1 3 1) + 1))) = H3
      replace h := h H3 hH3.symm
      refine e3_K [0, 0] 19 [(2, 3), (1, l1), (3, 0), (3, 0), (0, (e3_w32 (l4 + (-1))))] [] (H3) (G) (wZ L xs) (M := tbM10) rfl rfl trivial ?_
      exact ih _ _ _ _ h
set_option maxRecDepth 100000 in
set_option maxHeartbeats 4000000 in
theorem sT_append (L : Nat) (xs : Nat → Int32) (Q : Int → e3_H → e3_G → Prop) (l1 : Int) (l3 : Int) (H : e3_H) (G : e3_G) (h : wT_append Q l1 l3 H G) : e3_Ev (wB L xs) 0 0 10 0 [(2, 3), (1, l1), (3, 0), (0, l3), (3, 0)] [] H G (e3_q0 Q) := by
  unfold wT_append at h
  refine e3_K [0, 2, 0, 0, 0] 9 [(2, 3), (1, l1), (3, 0), (0, l3), (3, 0)] [(0, 1600), (0, (e3_w32 ((H 3 1) + l3)))] (H) (G) (wZ L xs) (M := tbM10) rfl rfl ⟨trivial, trivial⟩ ?_
  refine e3_br (M := tbM10) rfl rfl rfl Iff.rfl (fun hc => ?_) (fun hc => ?_)
  · replace h := h.1 hc
    refine e3_K [0] 13 [(2, 3), (1, l1), (3, 0), (0, l3), (3, 0)] [(0, 0)] (H) (G) (wZ L xs) (M := tbM10) rfl rfl trivial ?_
    exact e3_retb (M := tbM10) rfl rfl rfl (Or.inl rfl) ⟨_, rfl, h⟩
  · replace h := h.2 hc
    refine e3_K [0, 0, 0, 0] 19 [(2, 3), (1, l1), (3, 0), (0, l3), (0, (e3_w32 (l3 - 1)))] [] (H) (G) (wZ L xs) (M := tbM10) rfl rfl trivial ?_
    refine e3_fgt [true, true, false, false, true] ?_
    obtain ⟨nl, h⟩ := h
    exact sT_append_19 L xs Q nl _ _ _ _ h
/-- LetterPost.feed(JI)I -/
def wP_feed_11 (Q : Int → e3_H → e3_G → Prop)  (H : e3_H) (G : e3_G) : Prop :=
  Q (-1) H G
def wP_feed_37 (Q : Int → e3_H → e3_G → Prop) (s0 : Int) (H : e3_H) (G : e3_G) : Prop :=
  Q s0 H G
def wP_feed (Q : Int → e3_H → e3_G → Prop) (l1 : Int) (l3 : Int) (H : e3_H) (G : e3_G) : Prop :=
  (((l3 : Int) < 1 → (wP_feed_11 Q H G)) ∧ (¬ ((l3 : Int) < 1) → (((8 : Int) < l3 → (wP_feed_11 Q H G)) ∧ (¬ ((8 : Int) < l3) → (wT_append (fun x3 H1 G2 => (((x3 : Int) = 0 → (wP_feed_37 Q (-3) H1 G2)) ∧ (¬ ((x3 : Int) = 0) → (wP_feed_37 Q (H1 3 1) H1 G2)))) l1 l3 H G)))))
set_option maxRecDepth 100000 in
set_option maxHeartbeats 4000000 in
theorem sP_feed_11 (L : Nat) (xs : Nat → Int32) (Q : Int → e3_H → e3_G → Prop)  (H : e3_H) (G : e3_G) (h : wP_feed_11 Q  H G) : e3_Ev (wB L xs) 1 24 9 11 [(3, 0), (3, 0), (3, 0), (3, 0)] [] H G (e3_q0 Q) := by
  unfold wP_feed_11 at h
  refine e3_K [0] 12 [(3, 0), (3, 0), (3, 0), (3, 0)] [(0, (-1))] (H) (G) (wZ L xs) (M := tbM9) rfl rfl trivial ?_
  exact e3_reti (M := tbM9) rfl rfl rfl ⟨_, rfl, h⟩
set_option maxRecDepth 100000 in
set_option maxHeartbeats 4000000 in
theorem sP_feed_37 (L : Nat) (xs : Nat → Int32) (Q : Int → e3_H → e3_G → Prop) (s0 : Int) (H : e3_H) (G : e3_G) (h : wP_feed_37 Q s0 H G) : e3_Ev (wB L xs) 1 24 9 37 [(3, 0), (3, 0), (3, 0), (3, 0)] [(0, s0)] H G (e3_q0 Q) := by
  unfold wP_feed_37 at h
  exact e3_reti (M := tbM9) rfl rfl rfl ⟨_, rfl, h⟩
set_option maxRecDepth 100000 in
set_option maxHeartbeats 4000000 in
theorem sP_feed (L : Nat) (xs : Nat → Int32) (Q : Int → e3_H → e3_G → Prop) (l1 : Int) (l3 : Int) (H : e3_H) (G : e3_G) (h : wP_feed Q l1 l3 H G) : e3_Ev (wB L xs) 1 24 9 0 [(2, 2), (1, l1), (3, 0), (0, l3)] [] H G (e3_q0 Q) := by
  unfold wP_feed at h
  refine e3_K [0, 0] 2 [(2, 2), (1, l1), (3, 0), (0, l3)] [(0, 1), (0, l3)] (H) (G) (wZ L xs) (M := tbM9) rfl rfl trivial ?_
  refine e3_br (M := tbM9) rfl rfl rfl Iff.rfl (fun hc => ?_) (fun hc => ?_)
  · replace h := h.1 hc
    refine e3_fgt [false, false, false, false] ?_
    exact sP_feed_11 L xs Q _ _ h
  · replace h := h.2 hc
    refine e3_K [0, 0] 8 [(2, 2), (1, l1), (3, 0), (0, l3)] [(0, 8), (0, l3)] (H) (G) (wZ L xs) (M := tbM9) rfl rfl trivial ?_
    refine e3_br (M := tbM9) rfl rfl rfl Iff.rfl (fun hc => ?_) (fun hc => ?_)
    · replace h := h.1 hc
      refine e3_fgt [false, false, false, false] ?_
      exact sP_feed_11 L xs Q _ _ h
    · replace h := h.2 hc
      refine e3_K [0, 4, 0, 0] 19 [(2, 2), (1, l1), (3, 0), (0, l3)] [(0, l3), (1, l1), (2, 3)] (H) (G) (wZ L xs) (M := tbM9) rfl rfl ⟨trivial, trivial⟩ ?_
      refine e3_call (o := 0) (k := 10) (M2 := tbM10) (f1 := 0) (w1 := 0) (as := [(2, 3), (1, l1), (0, l3)]) (rest := []) (M := tbM9) rfl rfl rfl trivial (Nat.le_of_ble_eq_true rfl) (Nat.le_of_ble_eq_true rfl) (Nat.le_of_ble_eq_true rfl) ?_
      refine e3_mono (sT_append L xs _ _ _ _ _ h) (fun r H1 G2 h => ?_)
      obtain ⟨x3, rfl, h⟩ := h
      change e3_Ev _ _ _ _ 22 [(2, 2), (1, l1), (3, 0), (0, l3)] [(0, x3)] H1 G2 _
      refine e3_br (M := tbM9) rfl rfl rfl Iff.rfl (fun hc => ?_) (fun hc => ?_)
      · replace h := h.1 hc
        refine e3_K [0] 37 [(2, 2), (1, l1), (3, 0), (0, l3)] [(0, (-3))] (H1) (G2) (wZ L xs) (M := tbM9) rfl rfl trivial ?_
        refine e3_fgt [false, false, false, false] ?_
        exact sP_feed_37 L xs Q _ _ _ h
      · replace h := h.2 hc
        refine e3_K [0, 4, 2, 0] 37 [(2, 2), (1, l1), (3, 0), (0, l3)] [(0, (H1 3 1))] (H1) (G2) (wZ L xs) (M := tbM9) rfl rfl ⟨trivial, trivial, trivial⟩ ?_
        refine e3_fgt [false, false, false, false] ?_
        exact sP_feed_37 L xs Q _ _ _ h
/-- LetterPost$Tokens.behindBlanks(I)I -/
def wT_behindBlanks_38 (Q : Int → e3_H → e3_G → Prop) (l2 : Int) (H : e3_H) (G : e3_G) : Prop :=
  Q l2 H G
def wT_behindBlanks_32 (Q : Int → e3_H → e3_G → Prop) (k2 : Int → e3_H → e3_G → Prop) (l2 : Int) (H : e3_H) (G : e3_G) : Prop :=
  (k2 (e3_w32 (l2 + 1)) H G)
def wT_behindBlanks_2 (Q : Int → e3_H → e3_G → Prop) : Nat → Int → e3_H → e3_G → Prop
  | 0, _, _, _ => False
  | nn + 1, l2, H, G => (((l2 : Int) < (H 3 1) → ((0 : Int) ≤ l2 ∧ (l2 : Int) < 1600) ∧ ((((H 4 l2) : Int) = 32 → (wT_behindBlanks_32 Q (fun l2 H G => wT_behindBlanks_2 Q nn l2 H G) l2 H G)) ∧ (¬ (((H 4 l2) : Int) = 32) → ((0 : Int) ≤ l2 ∧ (l2 : Int) < 1600) ∧ ((((H 4 l2) : Int) = 10 → (wT_behindBlanks_32 Q (fun l2 H G => wT_behindBlanks_2 Q nn l2 H G) l2 H G)) ∧ (¬ (((H 4 l2) : Int) = 10) → (wT_behindBlanks_38 Q l2 H G)))))) ∧ (¬ ((l2 : Int) < (H 3 1)) → (wT_behindBlanks_38 Q l2 H G)))
def wT_behindBlanks (Q : Int → e3_H → e3_G → Prop) (l1 : Int) (H : e3_H) (G : e3_G) : Prop :=
  (∃ n, wT_behindBlanks_2 Q n l1 H G)
set_option maxRecDepth 100000 in
set_option maxHeartbeats 4000000 in
theorem sT_behindBlanks_38 (L : Nat) (xs : Nat → Int32) (Q : Int → e3_H → e3_G → Prop) (l2 : Int) (H : e3_H) (G : e3_G) (h : wT_behindBlanks_38 Q l2 H G) : e3_Ev (wB L xs) 0 0 15 38 [(3, 0), (3, 0), (0, l2)] [] H G (e3_q0 Q) := by
  unfold wT_behindBlanks_38 at h
  refine e3_K [0] 39 [(3, 0), (3, 0), (0, l2)] [(0, l2)] (H) (G) (wZ L xs) (M := tbM15) rfl rfl trivial ?_
  exact e3_reti (M := tbM15) rfl rfl rfl ⟨_, rfl, h⟩
set_option maxRecDepth 100000 in
set_option maxHeartbeats 4000000 in
theorem sT_behindBlanks_32 (L : Nat) (xs : Nat → Int32) (Q : Int → e3_H → e3_G → Prop) (k2 : Int → e3_H → e3_G → Prop) (hk2 : ∀ (l2 : Int) (H : e3_H) (G : e3_G), k2 l2 H G → e3_Ev (wB L xs) 0 0 15 2 [(2, 3), (3, 0), (0, l2)] [] H G (e3_q0 Q)) (l2 : Int) (H : e3_H) (G : e3_G) (h : wT_behindBlanks_32 Q k2 l2 H G) : e3_Ev (wB L xs) 0 0 15 32 [(2, 3), (3, 0), (0, l2)] [] H G (e3_q0 Q) := by
  unfold wT_behindBlanks_32 at h
  refine e3_K [0, 0] 2 [(2, 3), (3, 0), (0, (e3_w32 (l2 + 1)))] [] (H) (G) (wZ L xs) (M := tbM15) rfl rfl trivial ?_
  exact hk2 _ _ _ h
set_option maxRecDepth 100000 in
set_option maxHeartbeats 4000000 in
theorem sT_behindBlanks_2 (L : Nat) (xs : Nat → Int32) (Q : Int → e3_H → e3_G → Prop) : ∀ (nl : Nat) (l2 : Int) (H : e3_H) (G : e3_G), wT_behindBlanks_2 Q nl l2 H G → e3_Ev (wB L xs) 0 0 15 2 [(2, 3), (3, 0), (0, l2)] [] H G (e3_q0 Q) := by
  intro nl
  induction nl with
  | zero => intro l2 H G h; exact h.elim
  | succ nn ih =>
    intro l2 H G h
    have h : (((l2 : Int) < (H 3 1) → ((0 : Int) ≤ l2 ∧ (l2 : Int) < 1600) ∧ ((((H 4 l2) : Int) = 32 → (wT_behindBlanks_32 Q (fun l2 H G => wT_behindBlanks_2 Q nn l2 H G) l2 H G)) ∧ (¬ (((H 4 l2) : Int) = 32) → ((0 : Int) ≤ l2 ∧ (l2 : Int) < 1600) ∧ ((((H 4 l2) : Int) = 10 → (wT_behindBlanks_32 Q (fun l2 H G => wT_behindBlanks_2 Q nn l2 H G) l2 H G)) ∧ (¬ (((H 4 l2) : Int) = 10) → (wT_behindBlanks_38 Q l2 H G)))))) ∧ (¬ ((l2 : Int) < (H 3 1)) → (wT_behindBlanks_38 Q l2 H G))) := h
    refine e3_K [0, 0, 2] 7 [(2, 3), (3, 0), (0, l2)] [(0, (H 3 1)), (0, l2)] (H) (G) (wZ L xs) (M := tbM15) rfl rfl ⟨trivial, trivial⟩ ?_
    refine e3_br (M := tbM15) rfl rfl rfl Iff.rfl (fun hc => ?_) (fun hc => ?_)
    · replace h := h.1 hc
      obtain ⟨o1, h⟩ := h
      refine e3_K [0, 4, 0, 2, 0] 18 [(2, 3), (3, 0), (0, l2)] [(0, 32), (0, (H 4 l2))] (H) (G) (wZ L xs) (M := tbM15) rfl rfl ⟨trivial, o1, trivial⟩ ?_
      refine e3_br (M := tbM15) rfl rfl rfl Iff.rfl (fun hc => ?_) (fun hc => ?_)
      · replace h := h.1 hc
        exact sT_behindBlanks_32 L xs Q (fun l2 H G => wT_behindBlanks_2 Q nn l2 H G) ih _ _ _ h
      · replace h := h.2 hc
        obtain ⟨o2, h⟩ := h
        refine e3_K [0, 4, 0, 2, 0] 29 [(2, 3), (3, 0), (0, l2)] [(0, 10), (0, (H 4 l2))] (H) (G) (wZ L xs) (M := tbM15) rfl rfl ⟨trivial, o2, trivial⟩ ?_
        refine e3_br (M := tbM15) rfl rfl rfl Iff.rfl (fun hc => ?_) (fun hc => ?_)
        · replace h := h.1 hc
          exact sT_behindBlanks_32 L xs Q (fun l2 H G => wT_behindBlanks_2 Q nn l2 H G) ih _ _ _ h
        · replace h := h.2 hc
          refine e3_fgt [false, false, true] ?_
          exact sT_behindBlanks_38 L xs Q _ _ _ h
    · replace h := h.2 hc
      refine e3_fgt [false, false, true] ?_
      exact sT_behindBlanks_38 L xs Q _ _ _ h
set_option maxRecDepth 100000 in
set_option maxHeartbeats 4000000 in
theorem sT_behindBlanks (L : Nat) (xs : Nat → Int32) (Q : Int → e3_H → e3_G → Prop) (l1 : Int) (H : e3_H) (G : e3_G) (h : wT_behindBlanks Q l1 H G) : e3_Ev (wB L xs) 0 0 15 0 [(2, 3), (0, l1), (3, 0)] [] H G (e3_q0 Q) := by
  unfold wT_behindBlanks at h
  refine e3_K [0, 0] 2 [(2, 3), (0, l1), (0, l1)] [] (H) (G) (wZ L xs) (M := tbM15) rfl rfl trivial ?_
  refine e3_fgt [true, false, true] ?_
  obtain ⟨nl, h⟩ := h
  exact sT_behindBlanks_2 L xs Q nl _ _ _ h
/-- LetterPost$Tokens.put(IIIJ)I -/
def wT_put_51 (Q : Int → e3_H → e3_G → Prop) (l3 : Int) (H : e3_H) (G : e3_G) : Prop :=
  Q l3 H G
def wT_put (Q : Int → e3_H → e3_G → Prop) (l1 : Int) (l2 : Int) (l3 : Int) (l4 : Int) (H : e3_H) (G : e3_G) : Prop :=
  (((1600 : Int) < (H 3 5) → (wT_put_51 Q l3 H G)) ∧ (¬ ((1600 : Int) < (H 3 5)) → ((0 : Int) ≤ (H 3 5) ∧ ((H 3 5) : Int) < 1601) ∧ ∀ H1 : e3_H, H1 = e3_up H 5 (H 3 5) l1 → ((0 : Int) ≤ (H1 3 5) ∧ ((H1 3 5) : Int) < 1601) ∧ ∀ H3 : e3_H, H3 = e3_up H1 6 (H1 3 5) l2 → ((0 : Int) ≤ (H3 3 5) ∧ ((H3 3 5) : Int) < 1601) ∧ ∀ H5 : e3_H, H5 = e3_up H3 7 (H3 3 5) l4 → ∀ H7 : e3_H, H7 = e3_up H5 3 5 (e3_w32 ((H5 3 5) + 1)) → (wT_put_51 Q l3 H7 G)))
set_option maxRecDepth 100000 in
set_option maxHeartbeats 4000000 in
theorem sT_put_51 (L : Nat) (xs : Nat → Int32) (Q : Int → e3_H → e3_G → Prop) (l3 : Int) (H : e3_H) (G : e3_G) (h : wT_put_51 Q l3 H G) : e3_Ev (wB L xs) 0 0 17 51 [(3, 0), (3, 0), (3, 0), (0, l3), (3, 0), (3, 0)] [] H G (e3_q0 Q) := by
  unfold wT_put_51 at h
  refine e3_K [0] 52 [(3, 0), (3, 0), (3, 0), (0, l3), (3, 0), (3, 0)] [(0, l3)] (H) (G) (wZ L xs) (M := tbM17) rfl rfl trivial ?_
  exact e3_reti (M := tbM17) rfl rfl rfl ⟨_, rfl, h⟩
set_option maxRecDepth 100000 in
set_option maxHeartbeats 4000000 in
theorem sT_put (L : Nat) (xs : Nat → Int32) (Q : Int → e3_H → e3_G → Prop) (l1 : Int) (l2 : Int) (l3 : Int) (l4 : Int) (H : e3_H) (G : e3_G) (h : wT_put Q l1 l2 l3 l4 H G) : e3_Ev (wB L xs) 0 0 17 0 [(2, 3), (0, l1), (0, l2), (0, l3), (1, l4), (3, 0)] [] H G (e3_q0 Q) := by
  unfold wT_put at h
  refine e3_K [0, 2, 0] 7 [(2, 3), (0, l1), (0, l2), (0, l3), (1, l4), (3, 0)] [(0, 1600), (0, (H 3 5))] (H) (G) (wZ L xs) (M := tbM17) rfl rfl ⟨trivial, trivial⟩ ?_
  refine e3_br (M := tbM17) rfl rfl rfl Iff.rfl (fun hc => ?_) (fun hc => ?_)
  · replace h := h.1 hc
    refine e3_fgt [false, false, false, true, false, false] ?_
    exact sT_put_51 L xs Q _ _ _ h
  · replace h := h.2 hc
    obtain ⟨o2, h⟩ := h
    refine e3_K [0, 4, 0, 2, 0, 2] 20 [(2, 3), (0, l1), (0, l2), (0, l3), (1, l4), (3, 0)] [] (e3_up H 5 (H 3 5) l1) (G) (wZ L xs) (M := tbM17) rfl rfl ⟨trivial, trivial, o2, trivial⟩ ?_
    generalize hH1 : (e3_up H 5 (H 3 5) l1) = H1
    replace h := h H1 hH1.symm
    obtain ⟨o4, h⟩ := h
    refine e3_K [0, 4, 0, 2, 0, 2] 30 [(2, 3), (0, l1), (0, l2), (0, l3), (1, l4), (3, 0)] [] (e3_up H1 6 (H1 3 5) l2) (G) (wZ L xs) (M := tbM17) rfl rfl ⟨trivial, trivial, o4, trivial⟩ ?_
    generalize hH3 : (e3_up H1 6 (H1 3 5) l2) = H3
    replace h := h H3 hH3.symm
    obtain ⟨o6, h⟩ := h
    refine e3_K [0, 4, 0, 2, 0, 2] 41 [(2, 3), (0, l1), (0, l2), (0, l3), (1, l4), (3, 0)] [] (e3_up H3 7 (H3 3 5) l4) (G) (wZ L xs) (M := tbM17) rfl rfl ⟨trivial, trivial, o6, trivial⟩ ?_
    generalize hH5 : (e3_up H3 7 (H3 3 5) l4) = H5
    replace h := h H5 hH5.symm
    refine e3_K [0, 0, 2, 0, 0, 2] 51 [(2, 3), (0, l1), (0, l2), (0, l3), (1, l4), (3, 0)] [] (e3_up H5 3 5 (e3_w32 ((H5 3 5) + 1))) (G) (wZ L xs) (M := tbM17) rfl rfl ⟨trivial, trivial, trivial⟩ ?_
    generalize hH7 : (e3_up H5 3 5 (e3_w32 ((H5 3 5) + 1))) = H7
    replace h := h H7 hH7.symm
    refine e3_fgt [false, false, false, true, false, false] ?_
    exact sT_put_51 L xs Q _ _ _ h
/-- LetterPost$Tokens.isSmall(I)Z -/
def wT_isSmall_17 (Q : Int → e3_H → e3_G → Prop) (s0 : Int) (H : e3_H) (G : e3_G) : Prop :=
  ((s0 : Int) = 0 ∨ s0 = 1) ∧ Q s0 H G
def wT_isSmall_16 (Q : Int → e3_H → e3_G → Prop)  (H : e3_H) (G : e3_G) : Prop :=
  (wT_isSmall_17 Q 0 H G)
def wT_isSmall (Q : Int → e3_H → e3_G → Prop) (l0 : Int) (H : e3_H) (G : e3_G) : Prop :=
  (((l0 : Int) < 97 → (wT_isSmall_16 Q H G)) ∧ (¬ ((l0 : Int) < 97) → (((122 : Int) < l0 → (wT_isSmall_16 Q H G)) ∧ (¬ ((122 : Int) < l0) → (wT_isSmall_17 Q 1 H G)))))
set_option maxRecDepth 100000 in
set_option maxHeartbeats 4000000 in
theorem sT_isSmall_17 (L : Nat) (xs : Nat → Int32) (Q : Int → e3_H → e3_G → Prop) (s0 : Int) (H : e3_H) (G : e3_G) (h : wT_isSmall_17 Q s0 H G) : e3_Ev (wB L xs) 0 0 18 17 [(3, 0)] [(0, s0)] H G (e3_q0 Q) := by
  unfold wT_isSmall_17 at h
  exact e3_retb (M := tbM18) rfl rfl rfl h.1 ⟨_, rfl, h.2⟩
set_option maxRecDepth 100000 in
set_option maxHeartbeats 4000000 in
theorem sT_isSmall_16 (L : Nat) (xs : Nat → Int32) (Q : Int → e3_H → e3_G → Prop)  (H : e3_H) (G : e3_G) (h : wT_isSmall_16 Q  H G) : e3_Ev (wB L xs) 0 0 18 16 [(3, 0)] [] H G (e3_q0 Q) := by
  unfold wT_isSmall_16 at h
  refine e3_K [0] 17 [(3, 0)] [(0, 0)] (H) (G) (wZ L xs) (M := tbM18) rfl rfl trivial ?_
  exact sT_isSmall_17 L xs Q _ _ _ h
set_option maxRecDepth 100000 in
set_option maxHeartbeats 4000000 in
theorem sT_isSmall (L : Nat) (xs : Nat → Int32) (Q : Int → e3_H → e3_G → Prop) (l0 : Int) (H : e3_H) (G : e3_G) (h : wT_isSmall Q l0 H G) : e3_Ev (wB L xs) 0 0 18 0 [(0, l0)] [] H G (e3_q0 Q) := by
  unfold wT_isSmall at h
  refine e3_K [0, 0] 3 [(0, l0)] [(0, 97), (0, l0)] (H) (G) (wZ L xs) (M := tbM18) rfl rfl trivial ?_
  refine e3_br (M := tbM18) rfl rfl rfl Iff.rfl (fun hc => ?_) (fun hc => ?_)
  · replace h := h.1 hc
    refine e3_fgt [false] ?_
    exact sT_isSmall_16 L xs Q _ _ h
  · replace h := h.2 hc
    refine e3_K [0, 0] 9 [(0, l0)] [(0, 122), (0, l0)] (H) (G) (wZ L xs) (M := tbM18) rfl rfl trivial ?_
    refine e3_br (M := tbM18) rfl rfl rfl Iff.rfl (fun hc => ?_) (fun hc => ?_)
    · replace h := h.1 hc
      refine e3_fgt [false] ?_
      exact sT_isSmall_16 L xs Q _ _ h
    · replace h := h.2 hc
      refine e3_K [0, 0] 17 [(0, l0)] [(0, 1)] (H) (G) (wZ L xs) (M := tbM18) rfl rfl trivial ?_
      refine e3_fgt [false] ?_
      exact sT_isSmall_17 L xs Q _ _ _ h
/-- LetterPost$Tokens.isFigure(I)Z -/
def wT_isFigure_17 (Q : Int → e3_H → e3_G → Prop) (s0 : Int) (H : e3_H) (G : e3_G) : Prop :=
  ((s0 : Int) = 0 ∨ s0 = 1) ∧ Q s0 H G
def wT_isFigure_16 (Q : Int → e3_H → e3_G → Prop)  (H : e3_H) (G : e3_G) : Prop :=
  (wT_isFigure_17 Q 0 H G)
def wT_isFigure (Q : Int → e3_H → e3_G → Prop) (l0 : Int) (H : e3_H) (G : e3_G) : Prop :=
  (((l0 : Int) < 48 → (wT_isFigure_16 Q H G)) ∧ (¬ ((l0 : Int) < 48) → (((57 : Int) < l0 → (wT_isFigure_16 Q H G)) ∧ (¬ ((57 : Int) < l0) → (wT_isFigure_17 Q 1 H G)))))
set_option maxRecDepth 100000 in
set_option maxHeartbeats 4000000 in
theorem sT_isFigure_17 (L : Nat) (xs : Nat → Int32) (Q : Int → e3_H → e3_G → Prop) (s0 : Int) (H : e3_H) (G : e3_G) (h : wT_isFigure_17 Q s0 H G) : e3_Ev (wB L xs) 0 0 20 17 [(3, 0)] [(0, s0)] H G (e3_q0 Q) := by
  unfold wT_isFigure_17 at h
  exact e3_retb (M := tbM20) rfl rfl rfl h.1 ⟨_, rfl, h.2⟩
set_option maxRecDepth 100000 in
set_option maxHeartbeats 4000000 in
theorem sT_isFigure_16 (L : Nat) (xs : Nat → Int32) (Q : Int → e3_H → e3_G → Prop)  (H : e3_H) (G : e3_G) (h : wT_isFigure_16 Q  H G) : e3_Ev (wB L xs) 0 0 20 16 [(3, 0)] [] H G (e3_q0 Q) := by
  unfold wT_isFigure_16 at h
  refine e3_K [0] 17 [(3, 0)] [(0, 0)] (H) (G) (wZ L xs) (M := tbM20) rfl rfl trivial ?_
  exact sT_isFigure_17 L xs Q _ _ _ h
set_option maxRecDepth 100000 in
set_option maxHeartbeats 4000000 in
theorem sT_isFigure (L : Nat) (xs : Nat → Int32) (Q : Int → e3_H → e3_G → Prop) (l0 : Int) (H : e3_H) (G : e3_G) (h : wT_isFigure Q l0 H G) : e3_Ev (wB L xs) 0 0 20 0 [(0, l0)] [] H G (e3_q0 Q) := by
  unfold wT_isFigure at h
  refine e3_K [0, 0] 3 [(0, l0)] [(0, 48), (0, l0)] (H) (G) (wZ L xs) (M := tbM20) rfl rfl trivial ?_
  refine e3_br (M := tbM20) rfl rfl rfl Iff.rfl (fun hc => ?_) (fun hc => ?_)
  · replace h := h.1 hc
    refine e3_fgt [false] ?_
    exact sT_isFigure_16 L xs Q _ _ h
  · replace h := h.2 hc
    refine e3_K [0, 0] 9 [(0, l0)] [(0, 57), (0, l0)] (H) (G) (wZ L xs) (M := tbM20) rfl rfl trivial ?_
    refine e3_br (M := tbM20) rfl rfl rfl Iff.rfl (fun hc => ?_) (fun hc => ?_)
    · replace h := h.1 hc
      refine e3_fgt [false] ?_
      exact sT_isFigure_16 L xs Q _ _ h
    · replace h := h.2 hc
      refine e3_K [0, 0] 17 [(0, l0)] [(0, 1)] (H) (G) (wZ L xs) (M := tbM20) rfl rfl trivial ?_
      refine e3_fgt [false] ?_
      exact sT_isFigure_17 L xs Q _ _ _ h
/-- LetterPost$Tokens.packed(II)J -/
def wT_packed_5 (Q : Int → e3_H → e3_G → Prop) : Nat → Int → Int → Int → e3_H → e3_G → Prop
  | 0, _, _, _, _, _ => False
  | nn + 1, l2, l3, l5, H, G => (((l5 : Int) < l2 → ((0 : Int) ≤ l5 ∧ (l5 : Int) < 1600) ∧ (wT_packed_5 Q nn l2 (e3_lor (e3_lshl l3 8) (H 4 l5)) (e3_w32 (l5 + 1)) H G)) ∧ (¬ ((l5 : Int) < l2) → Q l3 H G))
def wT_packed (Q : Int → e3_H → e3_G → Prop) (l1 : Int) (l2 : Int) (H : e3_H) (G : e3_G) : Prop :=
  (∃ n, wT_packed_5 Q n l2 0 l1 H G)
set_option maxRecDepth 100000 in
set_option maxHeartbeats 4000000 in
theorem sT_packed_5 (L : Nat) (xs : Nat → Int32) (Q : Int → e3_H → e3_G → Prop) : ∀ (nl : Nat) (l2 : Int) (l3 : Int) (l5 : Int) (H : e3_H) (G : e3_G), wT_packed_5 Q nl l2 l3 l5 H G → e3_Ev (wB L xs) 0 0 21 5 [(2, 3), (3, 0), (0, l2), (1, l3), (3, 0), (0, l5)] [] H G (e3_q1 Q) := by
  intro nl
  induction nl with
  | zero => intro l2 l3 l5 H G h; exact h.elim
  | succ nn ih =>
    intro l2 l3 l5 H G h
    have h : (((l5 : Int) < l2 → ((0 : Int) ≤ l5 ∧ (l5 : Int) < 1600) ∧ (wT_packed_5 Q nn l2 (e3_lor (e3_lshl l3 8) (H 4 l5)) (e3_w32 (l5 + 1)) H G)) ∧ (¬ ((l5 : Int) < l2) → Q l3 H G)) := h
    refine e3_K [0, 0] 8 [(2, 3), (3, 0), (0, l2), (1, l3), (3, 0), (0, l5)] [(0, l2), (0, l5)] (H) (G) (wZ L xs) (M := tbM21) rfl rfl trivial ?_
    refine e3_br (M := tbM21) rfl rfl rfl Iff.rfl (fun hc => ?_) (fun hc => ?_)
    · replace h := h.1 hc
      obtain ⟨o1, h⟩ := h
      refine e3_K [0, 0, 0, 0, 4, 0, 2, 0, 0, 0, 0, 0] 5 [(2, 3), (3, 0), (0, l2), (1, (e3_lor (e3_lshl l3 8) (H 4 l5))), (3, 0), (0, (e3_w32 (l5 + 1)))] [] (H) (G) (wZ L xs) (M := tbM21) rfl rfl ⟨trivial, o1, trivial⟩ ?_
      exact ih _ _ _ _ _ h
    · replace h := h.2 hc
      refine e3_K [0] 32 [(2, 3), (3, 0), (0, l2), (1, l3), (3, 0), (0, l5)] [(1, l3)] (H) (G) (wZ L xs) (M := tbM21) rfl rfl trivial ?_
      exact e3_retl (M := tbM21) rfl rfl rfl ⟨_, rfl, h⟩
set_option maxRecDepth 100000 in
set_option maxHeartbeats 4000000 in
theorem sT_packed (L : Nat) (xs : Nat → Int32) (Q : Int → e3_H → e3_G → Prop) (l1 : Int) (l2 : Int) (H : e3_H) (G : e3_G) (h : wT_packed Q l1 l2 H G) : e3_Ev (wB L xs) 0 0 21 0 [(2, 3), (0, l1), (0, l2), (3, 0), (3, 0), (3, 0)] [] H G (e3_q1 Q) := by
  unfold wT_packed at h
  refine e3_K [0, 0, 0, 0] 5 [(2, 3), (0, l1), (0, l2), (1, 0), (3, 0), (0, l1)] [] (H) (G) (wZ L xs) (M := tbM21) rfl rfl trivial ?_
  refine e3_fgt [true, false, true, true, false, true] ?_
  obtain ⟨nl, h⟩ := h
  exact sT_packed_5 L xs Q nl _ _ _ _ _ h
/-- LetterPost$Tokens.wordOrName(J)I -/
def wT_wordOrName_2 (Q : Int → e3_H → e3_G → Prop) : Nat → Int → Int → e3_H → e3_G → Prop
  | 0, _, _, _, _ => False
  | nn + 1, l0, l2, H, G => (((l2 : Int) < 11 → ((0 : Int) ≤ l2 ∧ (l2 : Int) < 11) ∧ ((((H 1 l2) : Int) = l0 → Q (e3_w32 (270 + l2)) H G) ∧ (¬ (((H 1 l2) : Int) = l0) → (wT_wordOrName_2 Q nn l0 (e3_w32 (l2 + 1)) H G)))) ∧ (¬ ((l2 : Int) < 11) → Q 258 H G))
def wT_wordOrName (Q : Int → e3_H → e3_G → Prop) (l0 : Int) (H : e3_H) (G : e3_G) : Prop :=
  (∃ n, wT_wordOrName_2 Q n l0 0 H G)
set_option maxRecDepth 100000 in
set_option maxHeartbeats 4000000 in
theorem sT_wordOrName_2 (L : Nat) (xs : Nat → Int32) (Q : Int → e3_H → e3_G → Prop) : ∀ (nl : Nat) (l0 : Int) (l2 : Int) (H : e3_H) (G : e3_G), wT_wordOrName_2 Q nl l0 l2 H G → e3_Ev (wB L xs) 0 0 22 2 [(1, l0), (3, 0), (0, l2)] [] H G (e3_q0 Q) := by
  intro nl
  induction nl with
  | zero => intro l0 l2 H G h; exact h.elim
  | succ nn ih =>
    intro l0 l2 H G h
    have h : (((l2 : Int) < 11 → ((0 : Int) ≤ l2 ∧ (l2 : Int) < 11) ∧ ((((H 1 l2) : Int) = l0 → Q (e3_w32 (270 + l2)) H G) ∧ (¬ (((H 1 l2) : Int) = l0) → (wT_wordOrName_2 Q nn l0 (e3_w32 (l2 + 1)) H G)))) ∧ (¬ ((l2 : Int) < 11) → Q 258 H G)) := h
    refine e3_K [0, 2, 2] 7 [(1, l0), (3, 0), (0, l2)] [(0, 11), (0, l2)] (H) (G) (wZ L xs) (M := tbM22) rfl rfl ⟨trivial, (by decide), trivial⟩ ?_
    refine e3_br (M := tbM22) rfl rfl rfl Iff.rfl (fun hc => ?_) (fun hc => ?_)
    · replace h := h.1 hc
      obtain ⟨o1, h⟩ := h
      refine e3_K [2, 0, 2, 0, 0] 17 [(1, l0), (3, 0), (0, l2)] [(0, (e3_cmp (H 1 l2) l0))] (H) (G) (wZ L xs) (M := tbM22) rfl rfl ⟨trivial, o1, trivial⟩ ?_
      refine e3_br (M := tbM22) rfl rfl rfl e3_cmp_eq (fun hc => ?_) (fun hc => ?_)
      · replace h := h.1 hc
        refine e3_K [0, 0, 0] 25 [(1, l0), (3, 0), (0, l2)] [(0, (e3_w32 (270 + l2)))] (H) (G) (wZ L xs) (M := tbM22) rfl rfl trivial ?_
        exact e3_reti (M := tbM22) rfl rfl rfl ⟨_, rfl, h⟩
      · replace h := h.2 hc
        refine e3_K [0, 0] 2 [(1, l0), (3, 0), (0, (e3_w32 (l2 + 1)))] [] (H) (G) (wZ L xs) (M := tbM22) rfl rfl trivial ?_
        exact ih _ _ _ _ h
    · replace h := h.2 hc
      refine e3_K [0] 35 [(1, l0), (3, 0), (0, l2)] [(0, 258)] (H) (G) (wZ L xs) (M := tbM22) rfl rfl trivial ?_
      exact e3_reti (M := tbM22) rfl rfl rfl ⟨_, rfl, h⟩
set_option maxRecDepth 100000 in
set_option maxHeartbeats 4000000 in
theorem sT_wordOrName (L : Nat) (xs : Nat → Int32) (Q : Int → e3_H → e3_G → Prop) (l0 : Int) (H : e3_H) (G : e3_G) (h : wT_wordOrName Q l0 H G) : e3_Ev (wB L xs) 0 0 22 0 [(1, l0), (3, 0), (3, 0)] [] H G (e3_q0 Q) := by
  unfold wT_wordOrName at h
  refine e3_K [0, 0] 2 [(1, l0), (3, 0), (0, 0)] [] (H) (G) (wZ L xs) (M := tbM22) rfl rfl trivial ?_
  obtain ⟨nl, h⟩ := h
  exact sT_wordOrName_2 L xs Q nl _ _ _ _ h
/-- LetterPost$Tokens.cutName(II)I -/
def wT_cutName_86 (Q : Int → e3_H → e3_G → Prop) (l1 : Int) (l3 : Int) (l4 : Int) (s0 : Int) (H : e3_H) (G : e3_G) : Prop :=
  (wT_put (fun x3 H1 G2 => Q x3 H1 G2) s0 l1 l3 l4 H G)
def wT_cutName_42 (Q : Int → e3_H → e3_G → Prop) (l1 : Int) (l2 : Int) (l3 : Int) (H : e3_H) (G : e3_G) : Prop :=
  (((8 : Int) < (e3_w32 (l3 - l1)) → (wT_put (fun x3 H1 G2 => Q x3 H1 G2) 257 l1 l3 0 H G)) ∧ (¬ ((8 : Int) < (e3_w32 (l3 - l1))) → (wT_packed (fun x6 H4 G5 => (((l2 : Int) = 258 → (wT_wordOrName (fun x9 H7 G8 => (wT_cutName_86 Q l1 l3 x6 x9 H7 G8)) x6 H4 G5)) ∧ (¬ ((l2 : Int) = 258) → (wT_cutName_86 Q l1 l3 x6 l2 H4 G5)))) l1 l3 H G)))
def wT_cutName_36 (Q : Int → e3_H → e3_G → Prop) (k4 : Int → Int → Int → e3_H → e3_G → Prop) (l1 : Int) (l2 : Int) (l3 : Int) (H : e3_H) (G : e3_G) : Prop :=
  (k4 l1 l2 (e3_w32 (l3 + 1)) H G)
def wT_cutName_4 (Q : Int → e3_H → e3_G → Prop) : Nat → Int → Int → Int → e3_H → e3_G → Prop
  | 0, _, _, _, _, _ => False
  | nn + 1, l1, l2, l3, H, G => (((l3 : Int) < (H 3 1) → ((0 : Int) ≤ l3 ∧ (l3 : Int) < 1600) ∧ (wT_isSmall (fun x4 H2 G3 => (((x4 : Int) = 0 → ((0 : Int) ≤ l3 ∧ (l3 : Int) < 1600) ∧ (wT_isFigure (fun x8 H6 G7 => (((x8 : Int) = 0 → (wT_cutName_42 Q l1 l2 l3 H6 G7)) ∧ (¬ ((x8 : Int) = 0) → (wT_cutName_36 Q (fun l1 l2 l3 H G => wT_cutName_4 Q nn l1 l2 l3 H G) l1 l2 l3 H6 G7)))) (H2 4 l3) H2 G3)) ∧ (¬ ((x4 : Int) = 0) → (wT_cutName_36 Q (fun l1 l2 l3 H G => wT_cutName_4 Q nn l1 l2 l3 H G) l1 l2 l3 H2 G3)))) (H 4 l3) H G)) ∧ (¬ ((l3 : Int) < (H 3 1)) → (wT_cutName_42 Q l1 l2 l3 H G)))
def wT_cutName (Q : Int → e3_H → e3_G → Prop) (l1 : Int) (l2 : Int) (H : e3_H) (G : e3_G) : Prop :=
  (∃ n, wT_cutName_4 Q n l1 l2 (e3_w32 (l1 + 1)) H G)
set_option maxRecDepth 100000 in
set_option maxHeartbeats 4000000 in
theorem sT_cutName_86 (L : Nat) (xs : Nat → Int32) (Q : Int → e3_H → e3_G → Prop) (l1 : Int) (l3 : Int) (l4 : Int) (s0 : Int) (H : e3_H) (G : e3_G) (h : wT_cutName_86 Q l1 l3 l4 s0 H G) : e3_Ev (wB L xs) 1 25 19 86 [(3, 0), (0, l1), (3, 0), (0, l3), (1, l4), (3, 0)] [(0, s0), (2, 3)] H G (e3_q0 Q) := by
  unfold wT_cutName_86 at h
  refine e3_K [0, 0, 0] 90 [(3, 0), (0, l1), (3, 0), (0, l3), (1, l4), (3, 0)] [(1, l4), (0, l3), (0, l1), (0, s0), (2, 3)] (H) (G) (wZ L xs) (M := tbM19) rfl rfl trivial ?_
  refine e3_call (o := 0) (k := 17) (M2 := tbM17) (f1 := 0) (w1 := 0) (as := [(2, 3), (0, s0), (0, l1), (0, l3), (1, l4)]) (rest := []) (M := tbM19) rfl rfl rfl trivial (Nat.le_of_ble_eq_true rfl) (Nat.le_of_ble_eq_true rfl) (Nat.le_of_ble_eq_true rfl) ?_
  refine e3_mono (sT_put L xs _ _ _ _ _ _ _ h) (fun r H1 G2 h => ?_)
  obtain ⟨x3, rfl, h⟩ := h
  change e3_Ev _ _ _ _ 93 [(3, 0), (0, l1), (3, 0), (0, l3), (1, l4), (3, 0)] [(0, x3)] H1 G2 _
  exact e3_reti (M := tbM19) rfl rfl rfl ⟨_, rfl, h⟩
set_option maxRecDepth 100000 in
set_option maxHeartbeats 4000000 in
theorem sT_cutName_42 (L : Nat) (xs : Nat → Int32) (Q : Int → e3_H → e3_G → Prop) (l1 : Int) (l2 : Int) (l3 : Int) (H : e3_H) (G : e3_G) (h : wT_cutName_42 Q l1 l2 l3 H G) : e3_Ev (wB L xs) 1 25 19 42 [(2, 3), (0, l1), (0, l2), (0, l3), (3, 0), (3, 0)] [] H G (e3_q0 Q) := by
  unfold wT_cutName_42 at h
  refine e3_K [0, 0, 0, 0] 47 [(2, 3), (0, l1), (0, l2), (0, l3), (3, 0), (3, 0)] [(0, 8), (0, (e3_w32 (l3 - l1)))] (H) (G) (wZ L xs) (M := tbM19) rfl rfl trivial ?_
  refine e3_br (M := tbM19) rfl rfl rfl Iff.rfl (fun hc => ?_) (fun hc => ?_)
  · replace h := h.1 hc
    refine e3_K [0, 0, 0, 0, 0] 57 [(2, 3), (0, l1), (0, l2), (0, l3), (3, 0), (3, 0)] [(1, 0), (0, l3), (0, l1), (0, 257), (2, 3)] (H) (G) (wZ L xs) (M := tbM19) rfl rfl trivial ?_
    refine e3_call (o := 0) (k := 17) (M2 := tbM17) (f1 := 0) (w1 := 0) (as := [(2, 3), (0, 257), (0, l1), (0, l3), (1, 0)]) (rest := []) (M := tbM19) rfl rfl rfl trivial (Nat.le_of_ble_eq_true rfl) (Nat.le_of_ble_eq_true rfl) (Nat.le_of_ble_eq_true rfl) ?_
    refine e3_mono (sT_put L xs _ _ _ _ _ _ _ h) (fun r H1 G2 h => ?_)
    obtain ⟨x3, rfl, h⟩ := h
    change e3_Ev _ _ _ _ 60 [(2, 3), (0, l1), (0, l2), (0, l3), (3, 0), (3, 0)] [(0, x3)] H1 G2 _
    exact e3_reti (M := tbM19) rfl rfl rfl ⟨_, rfl, h⟩
  · replace h := h.2 hc
    refine e3_K [0, 0, 0] 64 [(2, 3), (0, l1), (0, l2), (0, l3), (3, 0), (3, 0)] [(0, l3), (0, l1), (2, 3)] (H) (G) (wZ L xs) (M := tbM19) rfl rfl trivial ?_
    refine e3_call (o := 0) (k := 21) (M2 := tbM21) (f1 := 0) (w1 := 0) (as := [(2, 3), (0, l1), (0, l3)]) (rest := []) (M := tbM19) rfl rfl rfl trivial (Nat.le_of_ble_eq_true rfl) (Nat.le_of_ble_eq_true rfl) (Nat.le_of_ble_eq_true rfl) ?_
    refine e3_mono (sT_packed L xs _ _ _ _ _ h) (fun r H4 G5 h => ?_)
    obtain ⟨x6, rfl, h⟩ := h
    change e3_Ev _ _ _ _ 67 [(2, 3), (0, l1), (0, l2), (0, l3), (3, 0), (3, 0)] [(1, x6)] H4 G5 _
    refine e3_K [0, 0, 0, 0] 74 [(2, 3), (0, l1), (0, l2), (0, l3), (1, x6), (3, 0)] [(0, 258), (0, l2), (2, 3)] (H4) (G5) (wZ L xs) (M := tbM19) rfl rfl trivial ?_
    refine e3_br (M := tbM19) rfl rfl rfl Iff.rfl (fun hc => ?_) (fun hc => ?_)
    · replace h := h.1 hc
      refine e3_K [0] 79 [(2, 3), (0, l1), (0, l2), (0, l3), (1, x6), (3, 0)] [(1, x6), (2, 3)] (H4) (G5) (wZ L xs) (M := tbM19) rfl rfl trivial ?_
      refine e3_call (o := 0) (k := 22) (M2 := tbM22) (f1 := 0) (w1 := 0) (as := [(1, x6)]) (rest := [(2, 3)]) (M := tbM19) rfl rfl rfl trivial (Nat.le_of_ble_eq_true rfl) (Nat.le_of_ble_eq_true rfl) (Nat.le_of_ble_eq_true rfl) ?_
      refine e3_mono (sT_wordOrName L xs _ _ _ _ h) (fun r H7 G8 h => ?_)
      obtain ⟨x9, rfl, h⟩ := h
      change e3_Ev _ _ _ _ 82 [(2, 3), (0, l1), (0, l2), (0, l3), (1, x6), (3, 0)] [(0, x9), (2, 3)] H7 G8 _
      refine e3_K [0] 86 [(2, 3), (0, l1), (0, l2), (0, l3), (1, x6), (3, 0)] [(0, x9), (2, 3)] (H7) (G8) (wZ L xs) (M := tbM19) rfl rfl trivial ?_
      refine e3_fgt [false, true, false, true, true, false] ?_
      exact sT_cutName_86 L xs Q _ _ _ _ _ _ h
    · replace h := h.2 hc
      refine e3_K [0] 86 [(2, 3), (0, l1), (0, l2), (0, l3), (1, x6), (3, 0)] [(0, l2), (2, 3)] (H4) (G5) (wZ L xs) (M := tbM19) rfl rfl trivial ?_
      refine e3_fgt [false, true, false, true, true, false] ?_
      exact sT_cutName_86 L xs Q _ _ _ _ _ _ h
set_option maxRecDepth 100000 in
set_option maxHeartbeats 4000000 in
theorem sT_cutName_36 (L : Nat) (xs : Nat → Int32) (Q : Int → e3_H → e3_G → Prop) (k4 : Int → Int → Int → e3_H → e3_G → Prop) (hk4 : ∀ (l1 : Int) (l2 : Int) (l3 : Int) (H : e3_H) (G : e3_G), k4 l1 l2 l3 H G → e3_Ev (wB L xs) 1 25 19 4 [(2, 3), (0, l1), (0, l2), (0, l3), (3, 0), (3, 0)] [] H G (e3_q0 Q)) (l1 : Int) (l2 : Int) (l3 : Int) (H : e3_H) (G : e3_G) (h : wT_cutName_36 Q k4 l1 l2 l3 H G) : e3_Ev (wB L xs) 1 25 19 36 [(2, 3), (0, l1), (0, l2), (0, l3), (3, 0), (3, 0)] [] H G (e3_q0 Q) := by
  unfold wT_cutName_36 at h
  refine e3_K [0, 0] 4 [(2, 3), (0, l1), (0, l2), (0, (e3_w32 (l3 + 1))), (3, 0), (3, 0)] [] (H) (G) (wZ L xs) (M := tbM19) rfl rfl trivial ?_
  exact hk4 _ _ _ _ _ h
set_option maxRecDepth 100000 in
set_option maxHeartbeats 4000000 in
theorem sT_cutName_4 (L : Nat) (xs : Nat → Int32) (Q : Int → e3_H → e3_G → Prop) : ∀ (nl : Nat) (l1 : Int) (l2 : Int) (l3 : Int) (H : e3_H) (G : e3_G), wT_cutName_4 Q nl l1 l2 l3 H G → e3_Ev (wB L xs) 1 25 19 4 [(2, 3), (0, l1), (0, l2), (0, l3), (3, 0), (3, 0)] [] H G (e3_q0 Q) := by
  intro nl
  induction nl with
  | zero => intro l1 l2 l3 H G h; exact h.elim
  | succ nn ih =>
    intro l1 l2 l3 H G h
    have h : (((l3 : Int) < (H 3 1) → ((0 : Int) ≤ l3 ∧ (l3 : Int) < 1600) ∧ (wT_isSmall (fun x4 H2 G3 => (((x4 : Int) = 0 → ((0 : Int) ≤ l3 ∧ (l3 : Int) < 1600) ∧ (wT_isFigure (fun x8 H6 G7 => (((x8 : Int) = 0 → (wT_cutName_42 Q l1 l2 l3 H6 G7)) ∧ (¬ ((x8 : Int) = 0) → (wT_cutName_36 Q (fun l1 l2 l3 H G => wT_cutName_4 Q nn l1 l2 l3 H G) l1 l2 l3 H6 G7)))) (H2 4 l3) H2 G3)) ∧ (¬ ((x4 : Int) = 0) → (wT_cutName_36 Q (fun l1 l2 l3 H G => wT_cutName_4 Q nn l1 l2 l3 H G) l1 l2 l3 H2 G3)))) (H 4 l3) H G)) ∧ (¬ ((l3 : Int) < (H 3 1)) → (wT_cutName_42 Q l1 l2 l3 H G))) := h
    refine e3_K [0, 0, 2] 9 [(2, 3), (0, l1), (0, l2), (0, l3), (3, 0), (3, 0)] [(0, (H 3 1)), (0, l3)] (H) (G) (wZ L xs) (M := tbM19) rfl rfl ⟨trivial, trivial⟩ ?_
    refine e3_br (M := tbM19) rfl rfl rfl Iff.rfl (fun hc => ?_) (fun hc => ?_)
    · replace h := h.1 hc
      obtain ⟨o1, h⟩ := h
      refine e3_K [0, 4, 0, 2] 18 [(2, 3), (0, l1), (0, l2), (0, l3), (3, 0), (3, 0)] [(0, (H 4 l3))] (H) (G) (wZ L xs) (M := tbM19) rfl rfl ⟨trivial, o1, trivial⟩ ?_
      refine e3_call (o := 0) (k := 18) (M2 := tbM18) (f1 := 0) (w1 := 0) (as := [(0, (H 4 l3))]) (rest := []) (M := tbM19) rfl rfl rfl trivial (Nat.le_of_ble_eq_true rfl) (Nat.le_of_ble_eq_true rfl) (Nat.le_of_ble_eq_true rfl) ?_
      refine e3_mono (sT_isSmall L xs _ _ _ _ h) (fun r H2 G3 h => ?_)
      obtain ⟨x4, rfl, h⟩ := h
      change e3_Ev _ _ _ _ 21 [(2, 3), (0, l1), (0, l2), (0, l3), (3, 0), (3, 0)] [(0, x4)] H2 G3 _
      refine e3_br (M := tbM19) rfl rfl rfl Iff.rfl (fun hc => ?_) (fun hc => ?_)
      · replace h := h.1 hc
        obtain ⟨o5, h⟩ := h
        refine e3_K [0, 4, 0, 2] 30 [(2, 3), (0, l1), (0, l2), (0, l3), (3, 0), (3, 0)] [(0, (H2 4 l3))] (H2) (G3) (wZ L xs) (M := tbM19) rfl rfl ⟨trivial, o5, trivial⟩ ?_
        refine e3_call (o := 0) (k := 20) (M2 := tbM20) (f1 := 0) (w1 := 0) (as := [(0, (H2 4 l3))]) (rest := []) (M := tbM19) rfl rfl rfl trivial (Nat.le_of_ble_eq_true rfl) (Nat.le_of_ble_eq_true rfl) (Nat.le_of_ble_eq_true rfl) ?_
        refine e3_mono (sT_isFigure L xs _ _ _ _ h) (fun r H6 G7 h => ?_)
        obtain ⟨x8, rfl, h⟩ := h
        change e3_Ev _ _ _ _ 33 [(2, 3), (0, l1), (0, l2), (0, l3), (3, 0), (3, 0)] [(0, x8)] H6 G7 _
        refine e3_br (M := tbM19) rfl rfl rfl Iff.rfl (fun hc => ?_) (fun hc => ?_)
        · replace h := h.1 hc
          exact sT_cutName_42 L xs Q _ _ _ _ _ h
        · replace h := h.2 hc
          exact sT_cutName_36 L xs Q (fun l1 l2 l3 H G => wT_cutName_4 Q nn l1 l2 l3 H G) ih _ _ _ _ _ h
      · replace h := h.2 hc
        exact sT_cutName_36 L xs Q (fun l1 l2 l3 H G => wT_cutName_4 Q nn l1 l2 l3 H G) ih _ _ _ _ _ h
    · replace h := h.2 hc
      exact sT_cutName_42 L xs Q _ _ _ _ _ h
set_option maxRecDepth 100000 in
set_option maxHeartbeats 4000000 in
theorem sT_cutName (L : Nat) (xs : Nat → Int32) (Q : Int → e3_H → e3_G → Prop) (l1 : Int) (l2 : Int) (H : e3_H) (G : e3_G) (h : wT_cutName Q l1 l2 H G) : e3_Ev (wB L xs) 1 25 19 0 [(2, 3), (0, l1), (0, l2), (3, 0), (3, 0), (3, 0)] [] H G (e3_q0 Q) := by
  unfold wT_cutName at h
  refine e3_K [0, 0, 0, 0] 4 [(2, 3), (0, l1), (0, l2), (0, (e3_w32 (l1 + 1))), (3, 0), (3, 0)] [] (H) (G) (wZ L xs) (M := tbM19) rfl rfl trivial ?_
  obtain ⟨nl, h⟩ := h
  exact sT_cutName_4 L xs Q nl _ _ _ _ _ h
/-- LetterPost$Tokens.cutNumber(I)I -/
def wT_cutNumber_77 (Q : Int → e3_H → e3_G → Prop) (l1 : Int) (l2 : Int) (l3 : Int) (s0 : Int) (H : e3_H) (G : e3_G) : Prop :=
  (wT_put (fun x3 H1 G2 => Q x3 H1 G2) s0 l1 l2 l3 H G)
def wT_cutNumber_59 (Q : Int → e3_H → e3_G → Prop) (l1 : Int) (l2 : Int) (l3 : Int) (H : e3_H) (G : e3_G) : Prop :=
  (((9 : Int) < (e3_w32 (l2 - l1)) → (wT_cutNumber_77 Q l1 l2 l3 257 H G)) ∧ (¬ ((9 : Int) < (e3_w32 (l2 - l1))) → (wT_cutNumber_77 Q l1 l2 l3 260 H G)))
def wT_cutNumber_52 (Q : Int → e3_H → e3_G → Prop) (k4 : Int → Int → Int → e3_H → e3_G → Prop) (l1 : Int) (l2 : Int) (s0 : Int) (H : e3_H) (G : e3_G) : Prop :=
  (k4 l1 (e3_w32 (l2 + 1)) s0 H G)
def wT_cutNumber_4 (Q : Int → e3_H → e3_G → Prop) : Nat → Int → Int → Int → e3_H → e3_G → Prop
  | 0, _, _, _, _, _ => False
  | nn + 1, l1, l2, l3, H, G => (((l2 : Int) < (H 3 1) → ((0 : Int) ≤ l2 ∧ (l2 : Int) < 1600) ∧ (wT_isFigure (fun x4 H2 G3 => (((x4 : Int) = 0 → (wT_cutNumber_59 Q l1 l2 l3 H2 G3)) ∧ (¬ ((x4 : Int) = 0) → ((((e3_w32 (l2 - l1)) : Int) < 9 → ((0 : Int) ≤ l2 ∧ (l2 : Int) < 1600) ∧ (wT_cutNumber_52 Q (fun l1 l2 l3 H G => wT_cutNumber_4 Q nn l1 l2 l3 H G) l1 l2 (e3_w64 ((e3_w64 (l3 * 10)) + (e3_w32 ((H2 4 l2) - 48)))) H2 G3)) ∧ (¬ (((e3_w32 (l2 - l1)) : Int) < 9) → (wT_cutNumber_52 Q (fun l1 l2 l3 H G => wT_cutNumber_4 Q nn l1 l2 l3 H G) l1 l2 l3 H2 G3)))))) (H 4 l2) H G)) ∧ (¬ ((l2 : Int) < (H 3 1)) → (wT_cutNumber_59 Q l1 l2 l3 H G)))
def wT_cutNumber (Q : Int → e3_H → e3_G → Prop) (l1 : Int) (H : e3_H) (G : e3_G) : Prop :=
  (∃ n, wT_cutNumber_4 Q n l1 l1 0 H G)
set_option maxRecDepth 100000 in
set_option maxHeartbeats 4000000 in
theorem sT_cutNumber_77 (L : Nat) (xs : Nat → Int32) (Q : Int → e3_H → e3_G → Prop) (l1 : Int) (l2 : Int) (l3 : Int) (s0 : Int) (H : e3_H) (G : e3_G) (h : wT_cutNumber_77 Q l1 l2 l3 s0 H G) : e3_Ev (wB L xs) 1 25 23 77 [(3, 0), (0, l1), (0, l2), (1, l3), (3, 0)] [(0, s0), (2, 3)] H G (e3_q0 Q) := by
  unfold wT_cutNumber_77 at h
  refine e3_K [0, 0, 0] 80 [(3, 0), (0, l1), (0, l2), (1, l3), (3, 0)] [(1, l3), (0, l2), (0, l1), (0, s0), (2, 3)] (H) (G) (wZ L xs) (M := tbM23) rfl rfl trivial ?_
  refine e3_call (o := 0) (k := 17) (M2 := tbM17) (f1 := 0) (w1 := 0) (as := [(2, 3), (0, s0), (0, l1), (0, l2), (1, l3)]) (rest := []) (M := tbM23) rfl rfl rfl trivial (Nat.le_of_ble_eq_true rfl) (Nat.le_of_ble_eq_true rfl) (Nat.le_of_ble_eq_true rfl) ?_
  refine e3_mono (sT_put L xs _ _ _ _ _ _ _ h) (fun r H1 G2 h => ?_)
  obtain ⟨x3, rfl, h⟩ := h
  change e3_Ev _ _ _ _ 83 [(3, 0), (0, l1), (0, l2), (1, l3), (3, 0)] [(0, x3)] H1 G2 _
  exact e3_reti (M := tbM23) rfl rfl rfl ⟨_, rfl, h⟩
set_option maxRecDepth 100000 in
set_option maxHeartbeats 4000000 in
theorem sT_cutNumber_59 (L : Nat) (xs : Nat → Int32) (Q : Int → e3_H → e3_G → Prop) (l1 : Int) (l2 : Int) (l3 : Int) (H : e3_H) (G : e3_G) (h : wT_cutNumber_59 Q l1 l2 l3 H G) : e3_Ev (wB L xs) 1 25 23 59 [(2, 3), (0, l1), (0, l2), (1, l3), (3, 0)] [] H G (e3_q0 Q) := by
  unfold wT_cutNumber_59 at h
  refine e3_K [0, 0, 0, 0, 0] 65 [(2, 3), (0, l1), (0, l2), (1, l3), (3, 0)] [(0, 9), (0, (e3_w32 (l2 - l1))), (2, 3)] (H) (G) (wZ L xs) (M := tbM23) rfl rfl trivial ?_
  refine e3_br (M := tbM23) rfl rfl rfl Iff.rfl (fun hc => ?_) (fun hc => ?_)
  · replace h := h.1 hc
    refine e3_K [0, 0] 77 [(2, 3), (0, l1), (0, l2), (1, l3), (3, 0)] [(0, 257), (2, 3)] (H) (G) (wZ L xs) (M := tbM23) rfl rfl trivial ?_
    refine e3_fgt [false, true, true, true, false] ?_
    exact sT_cutNumber_77 L xs Q _ _ _ _ _ _ h
  · replace h := h.2 hc
    refine e3_K [0] 77 [(2, 3), (0, l1), (0, l2), (1, l3), (3, 0)] [(0, 260), (2, 3)] (H) (G) (wZ L xs) (M := tbM23) rfl rfl trivial ?_
    refine e3_fgt [false, true, true, true, false] ?_
    exact sT_cutNumber_77 L xs Q _ _ _ _ _ _ h
set_option maxRecDepth 100000 in
set_option maxHeartbeats 4000000 in
theorem sT_cutNumber_52 (L : Nat) (xs : Nat → Int32) (Q : Int → e3_H → e3_G → Prop) (k4 : Int → Int → Int → e3_H → e3_G → Prop) (hk4 : ∀ (l1 : Int) (l2 : Int) (l3 : Int) (H : e3_H) (G : e3_G), k4 l1 l2 l3 H G → e3_Ev (wB L xs) 1 25 23 4 [(2, 3), (0, l1), (0, l2), (1, l3), (3, 0)] [] H G (e3_q0 Q)) (l1 : Int) (l2 : Int) (s0 : Int) (H : e3_H) (G : e3_G) (h : wT_cutNumber_52 Q k4 l1 l2 s0 H G) : e3_Ev (wB L xs) 1 25 23 52 [(2, 3), (0, l1), (0, l2), (3, 0), (3, 0)] [(1, s0)] H G (e3_q0 Q) := by
  unfold wT_cutNumber_52 at h
  refine e3_K [0, 0, 0] 4 [(2, 3), (0, l1), (0, (e3_w32 (l2 + 1))), (1, s0), (3, 0)] [] (H) (G) (wZ L xs) (M := tbM23) rfl rfl trivial ?_
  exact hk4 _ _ _ _ _ h
set_option maxRecDepth 100000 in
set_option maxHeartbeats 4000000 in
theorem sT_cutNumber_4 (L : Nat) (xs : Nat → Int32) (Q : Int → e3_H → e3_G → Prop) : ∀ (nl : Nat) (l1 : Int) (l2 : Int) (l3 : Int) (H : e3_H) (G : e3_G), wT_cutNumber_4 Q nl l1 l2 l3 H G → e3_Ev (wB L xs) 1 25 23 4 [(2, 3), (0, l1), (0, l2), (1, l3), (3, 0)] [] H G (e3_q0 Q) := by
  intro nl
  induction nl with
  | zero => intro l1 l2 l3 H G h; exact h.elim
  | succ nn ih =>
    intro l1 l2 l3 H G h
    have h : (((l2 : Int) < (H 3 1) → ((0 : Int) ≤ l2 ∧ (l2 : Int) < 1600) ∧ (wT_isFigure (fun x4 H2 G3 => (((x4 : Int) = 0 → (wT_cutNumber_59 Q l1 l2 l3 H2 G3)) ∧ (¬ ((x4 : Int) = 0) → ((((e3_w32 (l2 - l1)) : Int) < 9 → ((0 : Int) ≤ l2 ∧ (l2 : Int) < 1600) ∧ (wT_cutNumber_52 Q (fun l1 l2 l3 H G => wT_cutNumber_4 Q nn l1 l2 l3 H G) l1 l2 (e3_w64 ((e3_w64 (l3 * 10)) + (e3_w32 ((H2 4 l2) - 48)))) H2 G3)) ∧ (¬ (((e3_w32 (l2 - l1)) : Int) < 9) → (wT_cutNumber_52 Q (fun l1 l2 l3 H G => wT_cutNumber_4 Q nn l1 l2 l3 H G) l1 l2 l3 H2 G3)))))) (H 4 l2) H G)) ∧ (¬ ((l2 : Int) < (H 3 1)) → (wT_cutNumber_59 Q l1 l2 l3 H G))) := h
    refine e3_K [0, 0, 2] 9 [(2, 3), (0, l1), (0, l2), (1, l3), (3, 0)] [(0, (H 3 1)), (0, l2)] (H) (G) (wZ L xs) (M := tbM23) rfl rfl ⟨trivial, trivial⟩ ?_
    refine e3_br (M := tbM23) rfl rfl rfl Iff.rfl (fun hc => ?_) (fun hc => ?_)
    · replace h := h.1 hc
      obtain ⟨o1, h⟩ := h
      refine e3_K [0, 4, 0, 2] 18 [(2, 3), (0, l1), (0, l2), (1, l3), (3, 0)] [(0, (H 4 l2))] (H) (G) (wZ L xs) (M := tbM23) rfl rfl ⟨trivial, o1, trivial⟩ ?_
      refine e3_call (o := 0) (k := 20) (M2 := tbM20) (f1 := 0) (w1 := 0) (as := [(0, (H 4 l2))]) (rest := []) (M := tbM23) rfl rfl rfl trivial (Nat.le_of_ble_eq_true rfl) (Nat.le_of_ble_eq_true rfl) (Nat.le_of_ble_eq_true rfl) ?_
      refine e3_mono (sT_isFigure L xs _ _ _ _ h) (fun r H2 G3 h => ?_)
      obtain ⟨x4, rfl, h⟩ := h
      change e3_Ev _ _ _ _ 21 [(2, 3), (0, l1), (0, l2), (1, l3), (3, 0)] [(0, x4)] H2 G3 _
      refine e3_br (M := tbM23) rfl rfl rfl Iff.rfl (fun hc => ?_) (fun hc => ?_)
      · replace h := h.1 hc
        exact sT_cutNumber_59 L xs Q _ _ _ _ _ h
      · replace h := h.2 hc
        refine e3_K [0, 0, 0, 0] 29 [(2, 3), (0, l1), (0, l2), (1, l3), (3, 0)] [(0, 9), (0, (e3_w32 (l2 - l1)))] (H2) (G3) (wZ L xs) (M := tbM23) rfl rfl trivial ?_
        refine e3_br (M := tbM23) rfl rfl rfl Iff.rfl (fun hc => ?_) (fun hc => ?_)
        · replace h := h.1 hc
          obtain ⟨o5, h⟩ := h
          refine e3_K [0, 2, 0, 0, 4, 0, 2, 0, 0, 0, 0, 0] 52 [(2, 3), (0, l1), (0, l2), (1, l3), (3, 0)] [(1, (e3_w64 ((e3_w64 (l3 * 10)) + (e3_w32 ((H2 4 l2) - 48)))))] (H2) (G3) (wZ L xs) (M := tbM23) rfl rfl ⟨trivial, trivial, o5, trivial⟩ ?_
          refine e3_fgt [true, true, true, false, false] ?_
          exact sT_cutNumber_52 L xs Q (fun l1 l2 l3 H G => wT_cutNumber_4 Q nn l1 l2 l3 H G) ih _ _ _ _ _ h
        · replace h := h.2 hc
          refine e3_K [0] 52 [(2, 3), (0, l1), (0, l2), (1, l3), (3, 0)] [(1, l3)] (H2) (G3) (wZ L xs) (M := tbM23) rfl rfl trivial ?_
          refine e3_fgt [true, true, true, false, false] ?_
          exact sT_cutNumber_52 L xs Q (fun l1 l2 l3 H G => wT_cutNumber_4 Q nn l1 l2 l3 H G) ih _ _ _ _ _ h
    · replace h := h.2 hc
      exact sT_cutNumber_59 L xs Q _ _ _ _ _ h
set_option maxRecDepth 100000 in
set_option maxHeartbeats 4000000 in
theorem sT_cutNumber (L : Nat) (xs : Nat → Int32) (Q : Int → e3_H → e3_G → Prop) (l1 : Int) (H : e3_H) (G : e3_G) (h : wT_cutNumber Q l1 H G) : e3_Ev (wB L xs) 1 25 23 0 [(2, 3), (0, l1), (3, 0), (3, 0), (3, 0)] [] H G (e3_q0 Q) := by
  unfold wT_cutNumber at h
  refine e3_K [0, 0, 0, 0] 4 [(2, 3), (0, l1), (0, l1), (1, 0), (3, 0)] [] (H) (G) (wZ L xs) (M := tbM23) rfl rfl trivial ?_
  obtain ⟨nl, h⟩ := h
  exact sT_cutNumber_4 L xs Q nl _ _ _ _ _ h
/-- LetterPost$Tokens.cutText(I)I -/
def wT_cutText_69 (Q : Int → e3_H → e3_G → Prop) (l1 : Int) (l2 : Int) (H : e3_H) (G : e3_G) : Prop :=
  (wT_put (fun x3 H1 G2 => Q x3 H1 G2) 257 l1 l2 0 H G)
def wT_cutText_54 (Q : Int → e3_H → e3_G → Prop) (l1 : Int) (l2 : Int) (s0 : Int) (H : e3_H) (G : e3_G) : Prop :=
  (((s0 : Int) = 0 → (wT_cutText_69 Q l1 l2 H G)) ∧ (¬ ((s0 : Int) = 0) → (((8 : Int) < (e3_w32 ((e3_w32 (l2 - l1)) - 1)) → (wT_cutText_69 Q l1 l2 H G)) ∧ (¬ ((8 : Int) < (e3_w32 ((e3_w32 (l2 - l1)) - 1))) → (wT_packed (fun x3 H1 G2 => (wT_put (fun x6 H4 G5 => Q x6 H4 G5) 261 l1 (e3_w32 (l2 + 1)) x3 H1 G2)) (e3_w32 (l1 + 1)) l2 H G)))))
def wT_cutText_53 (Q : Int → e3_H → e3_G → Prop) (l1 : Int) (l2 : Int) (H : e3_H) (G : e3_G) : Prop :=
  (wT_cutText_54 Q l1 l2 0 H G)
def wT_cutText_30 (Q : Int → e3_H → e3_G → Prop) (l1 : Int) (l2 : Int) (H : e3_H) (G : e3_G) : Prop :=
  (((l2 : Int) < (H 3 1) → ((0 : Int) ≤ l2 ∧ (l2 : Int) < 1600) ∧ ((((H 4 l2) : Int) = 39 → (wT_cutText_54 Q l1 l2 1 H G)) ∧ (¬ (((H 4 l2) : Int) = 39) → (wT_cutText_53 Q l1 l2 H G)))) ∧ (¬ ((l2 : Int) < (H 3 1)) → (wT_cutText_53 Q l1 l2 H G)))
def wT_cutText_4 (Q : Int → e3_H → e3_G → Prop) : Nat → Int → Int → e3_H → e3_G → Prop
  | 0, _, _, _, _ => False
  | nn + 1, l1, l2, H, G => (((l2 : Int) < (H 3 1) → ((0 : Int) ≤ l2 ∧ (l2 : Int) < 1600) ∧ (wT_isSmall (fun x4 H2 G3 => (((x4 : Int) = 0 → (wT_cutText_30 Q l1 l2 H2 G3)) ∧ (¬ ((x4 : Int) = 0) → (wT_cutText_4 Q nn l1 (e3_w32 (l2 + 1)) H2 G3)))) (H 4 l2) H G)) ∧ (¬ ((l2 : Int) < (H 3 1)) → (wT_cutText_30 Q l1 l2 H G)))
def wT_cutText (Q : Int → e3_H → e3_G → Prop) (l1 : Int) (H : e3_H) (G : e3_G) : Prop :=
  (∃ n, wT_cutText_4 Q n l1 (e3_w32 (l1 + 1)) H G)
set_option maxRecDepth 100000 in
set_option maxHeartbeats 4000000 in
theorem sT_cutText_69 (L : Nat) (xs : Nat → Int32) (Q : Int → e3_H → e3_G → Prop) (l1 : Int) (l2 : Int) (H : e3_H) (G : e3_G) (h : wT_cutText_69 Q l1 l2 H G) : e3_Ev (wB L xs) 1 25 24 69 [(2, 3), (0, l1), (0, l2), (3, 0)] [] H G (e3_q0 Q) := by
  unfold wT_cutText_69 at h
  refine e3_K [0, 0, 0, 0, 0] 76 [(2, 3), (0, l1), (0, l2), (3, 0)] [(1, 0), (0, l2), (0, l1), (0, 257), (2, 3)] (H) (G) (wZ L xs) (M := tbM24) rfl rfl trivial ?_
  refine e3_call (o := 0) (k := 17) (M2 := tbM17) (f1 := 0) (w1 := 0) (as := [(2, 3), (0, 257), (0, l1), (0, l2), (1, 0)]) (rest := []) (M := tbM24) rfl rfl rfl trivial (Nat.le_of_ble_eq_true rfl) (Nat.le_of_ble_eq_true rfl) (Nat.le_of_ble_eq_true rfl) ?_
  refine e3_mono (sT_put L xs _ _ _ _ _ _ _ h) (fun r H1 G2 h => ?_)
  obtain ⟨x3, rfl, h⟩ := h
  change e3_Ev _ _ _ _ 79 [(2, 3), (0, l1), (0, l2), (3, 0)] [(0, x3)] H1 G2 _
  exact e3_reti (M := tbM24) rfl rfl rfl ⟨_, rfl, h⟩
set_option maxRecDepth 100000 in
set_option maxHeartbeats 4000000 in
theorem sT_cutText_54 (L : Nat) (xs : Nat → Int32) (Q : Int → e3_H → e3_G → Prop) (l1 : Int) (l2 : Int) (s0 : Int) (H : e3_H) (G : e3_G) (h : wT_cutText_54 Q l1 l2 s0 H G) : e3_Ev (wB L xs) 1 25 24 54 [(2, 3), (0, l1), (0, l2), (3, 0)] [(0, s0)] H G (e3_q0 Q) := by
  unfold wT_cutText_54 at h
  refine e3_K [0, 0] 56 [(2, 3), (0, l1), (0, l2), (0, s0)] [(0, s0)] (H) (G) (wZ L xs) (M := tbM24) rfl rfl trivial ?_
  refine e3_br (M := tbM24) rfl rfl rfl Iff.rfl (fun hc => ?_) (fun hc => ?_)
  · replace h := h.1 hc
    refine e3_fgt [true, true, true, false] ?_
    exact sT_cutText_69 L xs Q _ _ _ _ h
  · replace h := h.2 hc
    refine e3_K [0, 0, 0, 0, 0, 0] 66 [(2, 3), (0, l1), (0, l2), (0, s0)] [(0, 8), (0, (e3_w32 ((e3_w32 (l2 - l1)) - 1)))] (H) (G) (wZ L xs) (M := tbM24) rfl rfl trivial ?_
    refine e3_br (M := tbM24) rfl rfl rfl Iff.rfl (fun hc => ?_) (fun hc => ?_)
    · replace h := h.1 hc
      refine e3_fgt [true, true, true, false] ?_
      exact sT_cutText_69 L xs Q _ _ _ _ h
    · replace h := h.2 hc
      refine e3_K [0, 0, 0, 0, 0, 0, 0, 0, 0, 0, 0] 93 [(2, 3), (0, l1), (0, l2), (0, s0)] [(0, l2), (0, (e3_w32 (l1 + 1))), (2, 3), (0, (e3_w32 (l2 + 1))), (0, l1), (0, 261), (2, 3)] (H) (G) (wZ L xs) (M := tbM24) rfl rfl trivial ?_
      refine e3_call (o := 0) (k := 21) (M2 := tbM21) (f1 := 0) (w1 := 0) (as := [(2, 3), (0, (e3_w32 (l1 + 1))), (0, l2)]) (rest := [(0, (e3_w32 (l2 + 1))), (0, l1), (0, 261), (2, 3)]) (M := tbM24) rfl rfl rfl trivial (Nat.le_of_ble_eq_true rfl) (Nat.le_of_ble_eq_true rfl) (Nat.le_of_ble_eq_true rfl) ?_
      refine e3_mono (sT_packed L xs _ _ _ _ _ h) (fun r H1 G2 h => ?_)
      obtain ⟨x3, rfl, h⟩ := h
      change e3_Ev _ _ _ _ 96 [(2, 3), (0, l1), (0, l2), (0, s0)] [(1, x3), (0, (e3_w32 (l2 + 1))), (0, l1), (0, 261), (2, 3)] H1 G2 _
      refine e3_call (o := 0) (k := 17) (M2 := tbM17) (f1 := 0) (w1 := 0) (as := [(2, 3), (0, 261), (0, l1), (0, (e3_w32 (l2 + 1))), (1, x3)]) (rest := []) (M := tbM24) rfl rfl rfl trivial (Nat.le_of_ble_eq_true rfl) (Nat.le_of_ble_eq_true rfl) (Nat.le_of_ble_eq_true rfl) ?_
      refine e3_mono (sT_put L xs _ _ _ _ _ _ _ h) (fun r H4 G5 h => ?_)
      obtain ⟨x6, rfl, h⟩ := h
      change e3_Ev _ _ _ _ 99 [(2, 3), (0, l1), (0, l2), (0, s0)] [(0, x6)] H4 G5 _
      exact e3_reti (M := tbM24) rfl rfl rfl ⟨_, rfl, h⟩
set_option maxRecDepth 100000 in
set_option maxHeartbeats 4000000 in
theorem sT_cutText_53 (L : Nat) (xs : Nat → Int32) (Q : Int → e3_H → e3_G → Prop) (l1 : Int) (l2 : Int) (H : e3_H) (G : e3_G) (h : wT_cutText_53 Q l1 l2 H G) : e3_Ev (wB L xs) 1 25 24 53 [(2, 3), (0, l1), (0, l2), (3, 0)] [] H G (e3_q0 Q) := by
  unfold wT_cutText_53 at h
  refine e3_K [0] 54 [(2, 3), (0, l1), (0, l2), (3, 0)] [(0, 0)] (H) (G) (wZ L xs) (M := tbM24) rfl rfl trivial ?_
  exact sT_cutText_54 L xs Q _ _ _ _ _ h
set_option maxRecDepth 100000 in
set_option maxHeartbeats 4000000 in
theorem sT_cutText_30 (L : Nat) (xs : Nat → Int32) (Q : Int → e3_H → e3_G → Prop) (l1 : Int) (l2 : Int) (H : e3_H) (G : e3_G) (h : wT_cutText_30 Q l1 l2 H G) : e3_Ev (wB L xs) 1 25 24 30 [(2, 3), (0, l1), (0, l2), (3, 0)] [] H G (e3_q0 Q) := by
  unfold wT_cutText_30 at h
  refine e3_K [0, 0, 2] 35 [(2, 3), (0, l1), (0, l2), (3, 0)] [(0, (H 3 1)), (0, l2)] (H) (G) (wZ L xs) (M := tbM24) rfl rfl ⟨trivial, trivial⟩ ?_
  refine e3_br (M := tbM24) rfl rfl rfl Iff.rfl (fun hc => ?_) (fun hc => ?_)
  · replace h := h.1 hc
    obtain ⟨o1, h⟩ := h
    refine e3_K [0, 4, 0, 2, 0] 46 [(2, 3), (0, l1), (0, l2), (3, 0)] [(0, 39), (0, (H 4 l2))] (H) (G) (wZ L xs) (M := tbM24) rfl rfl ⟨trivial, o1, trivial⟩ ?_
    refine e3_br (M := tbM24) rfl rfl rfl Iff.rfl (fun hc => ?_) (fun hc => ?_)
    · replace h := h.1 hc
      refine e3_K [0, 0] 54 [(2, 3), (0, l1), (0, l2), (3, 0)] [(0, 1)] (H) (G) (wZ L xs) (M := tbM24) rfl rfl trivial ?_
      exact sT_cutText_54 L xs Q _ _ _ _ _ h
    · replace h := h.2 hc
      exact sT_cutText_53 L xs Q _ _ _ _ h
  · replace h := h.2 hc
    exact sT_cutText_53 L xs Q _ _ _ _ h
set_option maxRecDepth 100000 in
set_option maxHeartbeats 4000000 in
theorem sT_cutText_4 (L : Nat) (xs : Nat → Int32) (Q : Int → e3_H → e3_G → Prop) : ∀ (nl : Nat) (l1 : Int) (l2 : Int) (H : e3_H) (G : e3_G), wT_cutText_4 Q nl l1 l2 H G → e3_Ev (wB L xs) 1 25 24 4 [(2, 3), (0, l1), (0, l2), (3, 0)] [] H G (e3_q0 Q) := by
  intro nl
  induction nl with
  | zero => intro l1 l2 H G h; exact h.elim
  | succ nn ih =>
    intro l1 l2 H G h
    have h : (((l2 : Int) < (H 3 1) → ((0 : Int) ≤ l2 ∧ (l2 : Int) < 1600) ∧ (wT_isSmall (fun x4 H2 G3 => (((x4 : Int) = 0 → (wT_cutText_30 Q l1 l2 H2 G3)) ∧ (¬ ((x4 : Int) = 0) → (wT_cutText_4 Q nn l1 (e3_w32 (l2 + 1)) H2 G3)))) (H 4 l2) H G)) ∧ (¬ ((l2 : Int) < (H 3 1)) → (wT_cutText_30 Q l1 l2 H G))) := h
    refine e3_K [0, 0, 2] 9 [(2, 3), (0, l1), (0, l2), (3, 0)] [(0, (H 3 1)), (0, l2)] (H) (G) (wZ L xs) (M := tbM24) rfl rfl ⟨trivial, trivial⟩ ?_
    refine e3_br (M := tbM24) rfl rfl rfl Iff.rfl (fun hc => ?_) (fun hc => ?_)
    · replace h := h.1 hc
      obtain ⟨o1, h⟩ := h
      refine e3_K [0, 4, 0, 2] 18 [(2, 3), (0, l1), (0, l2), (3, 0)] [(0, (H 4 l2))] (H) (G) (wZ L xs) (M := tbM24) rfl rfl ⟨trivial, o1, trivial⟩ ?_
      refine e3_call (o := 0) (k := 18) (M2 := tbM18) (f1 := 0) (w1 := 0) (as := [(0, (H 4 l2))]) (rest := []) (M := tbM24) rfl rfl rfl trivial (Nat.le_of_ble_eq_true rfl) (Nat.le_of_ble_eq_true rfl) (Nat.le_of_ble_eq_true rfl) ?_
      refine e3_mono (sT_isSmall L xs _ _ _ _ h) (fun r H2 G3 h => ?_)
      obtain ⟨x4, rfl, h⟩ := h
      change e3_Ev _ _ _ _ 21 [(2, 3), (0, l1), (0, l2), (3, 0)] [(0, x4)] H2 G3 _
      refine e3_br (M := tbM24) rfl rfl rfl Iff.rfl (fun hc => ?_) (fun hc => ?_)
      · replace h := h.1 hc
        exact sT_cutText_30 L xs Q _ _ _ _ h
      · replace h := h.2 hc
        refine e3_K [0, 0] 4 [(2, 3), (0, l1), (0, (e3_w32 (l2 + 1))), (3, 0)] [] (H2) (G3) (wZ L xs) (M := tbM24) rfl rfl trivial ?_
        exact ih _ _ _ _ h
    · replace h := h.2 hc
      exact sT_cutText_30 L xs Q _ _ _ _ h
set_option maxRecDepth 100000 in
set_option maxHeartbeats 4000000 in
theorem sT_cutText (L : Nat) (xs : Nat → Int32) (Q : Int → e3_H → e3_G → Prop) (l1 : Int) (H : e3_H) (G : e3_G) (h : wT_cutText Q l1 H G) : e3_Ev (wB L xs) 1 25 24 0 [(2, 3), (0, l1), (3, 0), (3, 0)] [] H G (e3_q0 Q) := by
  unfold wT_cutText at h
  refine e3_K [0, 0, 0, 0] 4 [(2, 3), (0, l1), (0, (e3_w32 (l1 + 1))), (3, 0)] [] (H) (G) (wZ L xs) (M := tbM24) rfl rfl trivial ?_
  obtain ⟨nl, h⟩ := h
  exact sT_cutText_4 L xs Q nl _ _ _ _ h
/-- LetterPost$Tokens.cutOne(I)I -/
def wT_cutOne_162 (Q : Int → e3_H → e3_G → Prop) (l1 : Int) (s0 : Int) (H : e3_H) (G : e3_G) : Prop :=
  (wT_put (fun x3 H1 G2 => Q x3 H1 G2) s0 l1 (e3_w32 (l1 + 1)) 0 H G)
def wT_cutOne_149 (Q : Int → e3_H → e3_G → Prop) (l1 : Int) (l2 : Int) (s0 : Int) (H : e3_H) (G : e3_G) : Prop :=
  (((s0 : Int) = 0 → (wT_cutOne_162 Q l1 257 H G)) ∧ (¬ ((s0 : Int) = 0) → (wT_cutOne_162 Q l1 l2 H G)))
def wT_cutOne_148 (Q : Int → e3_H → e3_G → Prop) (l1 : Int) (l2 : Int) (H : e3_H) (G : e3_G) : Prop :=
  (wT_cutOne_149 Q l1 l2 0 H G)
def wT_cutOne_130 (Q : Int → e3_H → e3_G → Prop) (l1 : Int) (l2 : Int) (H : e3_H) (G : e3_G) : Prop :=
  (((0 : Int) < l2 → ((((e3_ix (e3_ch l2)) : Int) < 0 → (wT_cutOne_148 Q l1 l2 H G)) ∧ (¬ (((e3_ix (e3_ch l2)) : Int) < 0) → (wT_cutOne_149 Q l1 l2 1 H G)))) ∧ (¬ ((0 : Int) < l2) → (wT_cutOne_148 Q l1 l2 H G)))
def wT_cutOne_63 (Q : Int → e3_H → e3_G → Prop) (l1 : Int) (l2 : Int) (H : e3_H) (G : e3_G) : Prop :=
  (wT_isFigure (fun x3 H1 G2 => (((x3 : Int) = 0 → (((l2 : Int) = 39 → (wT_cutText (fun x6 H4 G5 => Q x6 H4 G5) l1 H1 G2)) ∧ (¬ ((l2 : Int) = 39) → (((l2 : Int) = 46 → ((((e3_w32 (l1 + 1)) : Int) < (H1 3 1) → ((0 : Int) ≤ (e3_w32 (l1 + 1)) ∧ ((e3_w32 (l1 + 1)) : Int) < 1600) ∧ ((((H1 4 (e3_w32 (l1 + 1))) : Int) = 46 → (wT_put (fun x10 H8 G9 => Q x10 H8 G9) 262 l1 (e3_w32 (l1 + 2)) 0 H1 G2)) ∧ (¬ (((H1 4 (e3_w32 (l1 + 1))) : Int) = 46) → (wT_cutOne_130 Q l1 l2 H1 G2)))) ∧ (¬ (((e3_w32 (l1 + 1)) : Int) < (H1 3 1)) → (wT_cutOne_130 Q l1 l2 H1 G2)))) ∧ (¬ ((l2 : Int) = 46) → (wT_cutOne_130 Q l1 l2 H1 G2)))))) ∧ (¬ ((x3 : Int) = 0) → (wT_cutNumber (fun x13 H11 G12 => Q x13 H11 G12) l1 H1 G2)))) l2 H G)
def wT_cutOne (Q : Int → e3_H → e3_G → Prop) (l1 : Int) (H : e3_H) (G : e3_G) : Prop :=
  (((l1 : Int) < (H 3 1) → ((0 : Int) ≤ l1 ∧ (l1 : Int) < 1600) ∧ (wT_isSmall (fun x4 H2 G3 => (((x4 : Int) = 0 → ((((H 4 l1) : Int) < 65 → (wT_cutOne_63 Q l1 (H 4 l1) H2 G3)) ∧ (¬ (((H 4 l1) : Int) < 65) → (((90 : Int) < (H 4 l1) → (wT_cutOne_63 Q l1 (H 4 l1) H2 G3)) ∧ (¬ ((90 : Int) < (H 4 l1)) → (wT_cutName (fun x7 H5 G6 => Q x7 H5 G6) l1 259 H2 G3)))))) ∧ (¬ ((x4 : Int) = 0) → (wT_cutName (fun x10 H8 G9 => Q x10 H8 G9) l1 258 H2 G3)))) (H 4 l1) H G)) ∧ (¬ ((l1 : Int) < (H 3 1)) → (wT_put (fun x13 H11 G12 => Q x13 H11 G12) 256 l1 l1 0 H G)))
set_option maxRecDepth 100000 in
set_option maxHeartbeats 4000000 in
theorem sT_cutOne_162 (L : Nat) (xs : Nat → Int32) (Q : Int → e3_H → e3_G → Prop) (l1 : Int) (s0 : Int) (H : e3_H) (G : e3_G) (h : wT_cutOne_162 Q l1 s0 H G) : e3_Ev (wB L xs) 8 400 16 162 [(3, 0), (0, l1), (3, 0), (3, 0)] [(0, s0), (2, 3)] H G (e3_q0 Q) := by
  unfold wT_cutOne_162 at h
  refine e3_K [0, 0, 0, 0, 0] 167 [(3, 0), (0, l1), (3, 0), (3, 0)] [(1, 0), (0, (e3_w32 (l1 + 1))), (0, l1), (0, s0), (2, 3)] (H) (G) (wZ L xs) (M := tbM16) rfl rfl trivial ?_
  refine e3_call (o := 0) (k := 17) (M2 := tbM17) (f1 := 0) (w1 := 0) (as := [(2, 3), (0, s0), (0, l1), (0, (e3_w32 (l1 + 1))), (1, 0)]) (rest := []) (M := tbM16) rfl rfl rfl trivial (Nat.le_of_ble_eq_true rfl) (Nat.le_of_ble_eq_true rfl) (Nat.le_of_ble_eq_true rfl) ?_
  refine e3_mono (sT_put L xs _ _ _ _ _ _ _ h) (fun r H1 G2 h => ?_)
  obtain ⟨x3, rfl, h⟩ := h
  change e3_Ev _ _ _ _ 170 [(3, 0), (0, l1), (3, 0), (3, 0)] [(0, x3)] H1 G2 _
  exact e3_reti (M := tbM16) rfl rfl rfl ⟨_, rfl, h⟩
set_option maxRecDepth 100000 in
set_option maxHeartbeats 4000000 in
theorem sT_cutOne_149 (L : Nat) (xs : Nat → Int32) (Q : Int → e3_H → e3_G → Prop) (l1 : Int) (l2 : Int) (s0 : Int) (H : e3_H) (G : e3_G) (h : wT_cutOne_149 Q l1 l2 s0 H G) : e3_Ev (wB L xs) 8 400 16 149 [(2, 3), (0, l1), (0, l2), (3, 0)] [(0, s0)] H G (e3_q0 Q) := by
  unfold wT_cutOne_149 at h
  refine e3_K [0, 0, 0] 152 [(2, 3), (0, l1), (0, l2), (0, s0)] [(0, s0), (2, 3)] (H) (G) (wZ L xs) (M := tbM16) rfl rfl trivial ?_
  refine e3_br (M := tbM16) rfl rfl rfl Iff.rfl (fun hc => ?_) (fun hc => ?_)
  · replace h := h.1 hc
    refine e3_K [0] 162 [(2, 3), (0, l1), (0, l2), (0, s0)] [(0, 257), (2, 3)] (H) (G) (wZ L xs) (M := tbM16) rfl rfl trivial ?_
    refine e3_fgt [false, true, false, false] ?_
    exact sT_cutOne_162 L xs Q _ _ _ _ h
  · replace h := h.2 hc
    refine e3_K [0, 0] 162 [(2, 3), (0, l1), (0, l2), (0, s0)] [(0, l2), (2, 3)] (H) (G) (wZ L xs) (M := tbM16) rfl rfl trivial ?_
    refine e3_fgt [false, true, false, false] ?_
    exact sT_cutOne_162 L xs Q _ _ _ _ h
set_option maxRecDepth 100000 in
set_option maxHeartbeats 4000000 in
theorem sT_cutOne_148 (L : Nat) (xs : Nat → Int32) (Q : Int → e3_H → e3_G → Prop) (l1 : Int) (l2 : Int) (H : e3_H) (G : e3_G) (h : wT_cutOne_148 Q l1 l2 H G) : e3_Ev (wB L xs) 8 400 16 148 [(2, 3), (0, l1), (0, l2), (3, 0)] [] H G (e3_q0 Q) := by
  unfold wT_cutOne_148 at h
  refine e3_K [0] 149 [(2, 3), (0, l1), (0, l2), (3, 0)] [(0, 0)] (H) (G) (wZ L xs) (M := tbM16) rfl rfl trivial ?_
  exact sT_cutOne_149 L xs Q _ _ _ _ _ h
set_option maxRecDepth 100000 in
set_option maxHeartbeats 4000000 in
theorem sT_cutOne_130 (L : Nat) (xs : Nat → Int32) (Q : Int → e3_H → e3_G → Prop) (l1 : Int) (l2 : Int) (H : e3_H) (G : e3_G) (h : wT_cutOne_130 Q l1 l2 H G) : e3_Ev (wB L xs) 8 400 16 130 [(2, 3), (0, l1), (0, l2), (3, 0)] [] H G (e3_q0 Q) := by
  unfold wT_cutOne_130 at h
  refine e3_K [0] 131 [(2, 3), (0, l1), (0, l2), (3, 0)] [(0, l2)] (H) (G) (wZ L xs) (M := tbM16) rfl rfl trivial ?_
  refine e3_br (M := tbM16) rfl rfl rfl Iff.rfl (fun hc => ?_) (fun hc => ?_)
  · replace h := h.1 hc
    refine w_six L xs (Nat.le_of_ble_eq_true rfl) (Nat.le_of_ble_eq_true rfl) rfl ?_
    refine e3_br (M := tbM16) rfl rfl rfl Iff.rfl (fun hc => ?_) (fun hc => ?_)
    · replace h := h.1 hc
      exact sT_cutOne_148 L xs Q _ _ _ _ h
    · replace h := h.2 hc
      refine e3_K [0, 0] 149 [(2, 3), (0, l1), (0, l2), (3, 0)] [(0, 1)] (H) (G) (wZ L xs) (M := tbM16) rfl rfl trivial ?_
      exact sT_cutOne_149 L xs Q _ _ _ _ _ h
  · replace h := h.2 hc
    exact sT_cutOne_148 L xs Q _ _ _ _ h
set_option maxRecDepth 100000 in
set_option maxHeartbeats 4000000 in
theorem sT_cutOne_63 (L : Nat) (xs : Nat → Int32) (Q : Int → e3_H → e3_G → Prop) (l1 : Int) (l2 : Int) (H : e3_H) (G : e3_G) (h : wT_cutOne_63 Q l1 l2 H G) : e3_Ev (wB L xs) 8 400 16 63 [(2, 3), (0, l1), (0, l2), (3, 0)] [] H G (e3_q0 Q) := by
  unfold wT_cutOne_63 at h
  refine e3_K [0] 64 [(2, 3), (0, l1), (0, l2), (3, 0)] [(0, l2)] (H) (G) (wZ L xs) (M := tbM16) rfl rfl trivial ?_
  refine e3_call (o := 0) (k := 20) (M2 := tbM20) (f1 := 0) (w1 := 0) (as := [(0, l2)]) (rest := []) (M := tbM16) rfl rfl rfl trivial (Nat.le_of_ble_eq_true rfl) (Nat.le_of_ble_eq_true rfl) (Nat.le_of_ble_eq_true rfl) ?_
  refine e3_mono (sT_isFigure L xs _ _ _ _ h) (fun r H1 G2 h => ?_)
  obtain ⟨x3, rfl, h⟩ := h
  change e3_Ev _ _ _ _ 67 [(2, 3), (0, l1), (0, l2), (3, 0)] [(0, x3)] H1 G2 _
  refine e3_br (M := tbM16) rfl rfl rfl Iff.rfl (fun hc => ?_) (fun hc => ?_)
  · replace h := h.1 hc
    refine e3_K [0, 0] 79 [(2, 3), (0, l1), (0, l2), (3, 0)] [(0, 39), (0, l2)] (H1) (G2) (wZ L xs) (M := tbM16) rfl rfl trivial ?_
    refine e3_br (M := tbM16) rfl rfl rfl Iff.rfl (fun hc => ?_) (fun hc => ?_)
    · replace h := h.1 hc
      refine e3_K [0, 0] 84 [(2, 3), (0, l1), (0, l2), (3, 0)] [(0, l1), (2, 3)] (H1) (G2) (wZ L xs) (M := tbM16) rfl rfl trivial ?_
      refine e3_call (o := 0) (k := 24) (M2 := tbM24) (f1 := 1) (w1 := 25) (as := [(2, 3), (0, l1)]) (rest := []) (M := tbM16) rfl rfl rfl trivial (Nat.le_of_ble_eq_true rfl) (Nat.le_of_ble_eq_true rfl) (Nat.le_of_ble_eq_true rfl) ?_
      refine e3_mono (sT_cutText L xs _ _ _ _ h) (fun r H4 G5 h => ?_)
      obtain ⟨x6, rfl, h⟩ := h
      change e3_Ev _ _ _ _ 87 [(2, 3), (0, l1), (0, l2), (3, 0)] [(0, x6)] H4 G5 _
      exact e3_reti (M := tbM16) rfl rfl rfl ⟨_, rfl, h⟩
    · replace h := h.2 hc
      refine e3_K [0, 0] 91 [(2, 3), (0, l1), (0, l2), (3, 0)] [(0, 46), (0, l2)] (H1) (G2) (wZ L xs) (M := tbM16) rfl rfl trivial ?_
      refine e3_br (M := tbM16) rfl rfl rfl Iff.rfl (fun hc => ?_) (fun hc => ?_)
      · replace h := h.1 hc
        refine e3_K [0, 0, 0, 0, 2] 101 [(2, 3), (0, l1), (0, l2), (3, 0)] [(0, (H1 3 1)), (0, (e3_w32 (l1 + 1)))] (H1) (G2) (wZ L xs) (M := tbM16) rfl rfl ⟨trivial, trivial⟩ ?_
        refine e3_br (M := tbM16) rfl rfl rfl Iff.rfl (fun hc => ?_) (fun hc => ?_)
        · replace h := h.1 hc
          obtain ⟨o7, h⟩ := h
          refine e3_K [0, 4, 0, 0, 0, 2, 0] 114 [(2, 3), (0, l1), (0, l2), (3, 0)] [(0, 46), (0, (H1 4 (e3_w32 (l1 + 1))))] (H1) (G2) (wZ L xs) (M := tbM16) rfl rfl ⟨trivial, o7, trivial⟩ ?_
          refine e3_br (M := tbM16) rfl rfl rfl Iff.rfl (fun hc => ?_) (fun hc => ?_)
          · replace h := h.1 hc
            refine e3_K [0, 0, 0, 0, 0, 0, 0] 126 [(2, 3), (0, l1), (0, l2), (3, 0)] [(1, 0), (0, (e3_w32 (l1 + 2))), (0, l1), (0, 262), (2, 3)] (H1) (G2) (wZ L xs) (M := tbM16) rfl rfl trivial ?_
            refine e3_call (o := 0) (k := 17) (M2 := tbM17) (f1 := 0) (w1 := 0) (as := [(2, 3), (0, 262), (0, l1), (0, (e3_w32 (l1 + 2))), (1, 0)]) (rest := []) (M := tbM16) rfl rfl rfl trivial (Nat.le_of_ble_eq_true rfl) (Nat.le_of_ble_eq_true rfl) (Nat.le_of_ble_eq_true rfl) ?_
            refine e3_mono (sT_put L xs _ _ _ _ _ _ _ h) (fun r H8 G9 h => ?_)
            obtain ⟨x10, rfl, h⟩ := h
            change e3_Ev _ _ _ _ 129 [(2, 3), (0, l1), (0, l2), (3, 0)] [(0, x10)] H8 G9 _
            exact e3_reti (M := tbM16) rfl rfl rfl ⟨_, rfl, h⟩
          · replace h := h.2 hc
            exact sT_cutOne_130 L xs Q _ _ _ _ h
        · replace h := h.2 hc
          exact sT_cutOne_130 L xs Q _ _ _ _ h
      · replace h := h.2 hc
        exact sT_cutOne_130 L xs Q _ _ _ _ h
  · replace h := h.2 hc
    refine e3_K [0, 0] 72 [(2, 3), (0, l1), (0, l2), (3, 0)] [(0, l1), (2, 3)] (H1) (G2) (wZ L xs) (M := tbM16) rfl rfl trivial ?_
    refine e3_call (o := 0) (k := 23) (M2 := tbM23) (f1 := 1) (w1 := 25) (as := [(2, 3), (0, l1)]) (rest := []) (M := tbM16) rfl rfl rfl trivial (Nat.le_of_ble_eq_true rfl) (Nat.le_of_ble_eq_true rfl) (Nat.le_of_ble_eq_true rfl) ?_
    refine e3_mono (sT_cutNumber L xs _ _ _ _ h) (fun r H11 G12 h => ?_)
    obtain ⟨x13, rfl, h⟩ := h
    change e3_Ev _ _ _ _ 75 [(2, 3), (0, l1), (0, l2), (3, 0)] [(0, x13)] H11 G12 _
    exact e3_reti (M := tbM16) rfl rfl rfl ⟨_, rfl, h⟩
set_option maxRecDepth 100000 in
set_option maxHeartbeats 4000000 in
theorem sT_cutOne (L : Nat) (xs : Nat → Int32) (Q : Int → e3_H → e3_G → Prop) (l1 : Int) (H : e3_H) (G : e3_G) (h : wT_cutOne Q l1 H G) : e3_Ev (wB L xs) 8 400 16 0 [(2, 3), (0, l1), (3, 0), (3, 0)] [] H G (e3_q0 Q) := by
  unfold wT_cutOne at h
  refine e3_K [0, 0, 2] 5 [(2, 3), (0, l1), (3, 0), (3, 0)] [(0, (H 3 1)), (0, l1)] (H) (G) (wZ L xs) (M := tbM16) rfl rfl ⟨trivial, trivial⟩ ?_
  refine e3_br (M := tbM16) rfl rfl rfl Iff.rfl (fun hc => ?_) (fun hc => ?_)
  · replace h := h.1 hc
    obtain ⟨o1, h⟩ := h
    refine e3_K [0, 4, 0, 2, 0, 0] 27 [(2, 3), (0, l1), (0, (H 4 l1)), (3, 0)] [(0, (H 4 l1))] (H) (G) (wZ L xs) (M := tbM16) rfl rfl ⟨trivial, o1, trivial⟩ ?_
    refine e3_call (o := 0) (k := 18) (M2 := tbM18) (f1 := 0) (w1 := 0) (as := [(0, (H 4 l1))]) (rest := []) (M := tbM16) rfl rfl rfl trivial (Nat.le_of_ble_eq_true rfl) (Nat.le_of_ble_eq_true rfl) (Nat.le_of_ble_eq_true rfl) ?_
    refine e3_mono (sT_isSmall L xs _ _ _ _ h) (fun r H2 G3 h => ?_)
    obtain ⟨x4, rfl, h⟩ := h
    change e3_Ev _ _ _ _ 30 [(2, 3), (0, l1), (0, (H 4 l1)), (3, 0)] [(0, x4)] H2 G3 _
    refine e3_br (M := tbM16) rfl rfl rfl Iff.rfl (fun hc => ?_) (fun hc => ?_)
    · replace h := h.1 hc
      refine e3_K [0, 0] 45 [(2, 3), (0, l1), (0, (H 4 l1)), (3, 0)] [(0, 65), (0, (H 4 l1))] (H2) (G3) (wZ L xs) (M := tbM16) rfl rfl trivial ?_
      refine e3_br (M := tbM16) rfl rfl rfl Iff.rfl (fun hc => ?_) (fun hc => ?_)
      · replace h := h.1 hc
        exact sT_cutOne_63 L xs Q _ _ _ _ h
      · replace h := h.2 hc
        refine e3_K [0, 0] 51 [(2, 3), (0, l1), (0, (H 4 l1)), (3, 0)] [(0, 90), (0, (H 4 l1))] (H2) (G3) (wZ L xs) (M := tbM16) rfl rfl trivial ?_
        refine e3_br (M := tbM16) rfl rfl rfl Iff.rfl (fun hc => ?_) (fun hc => ?_)
        · replace h := h.1 hc
          exact sT_cutOne_63 L xs Q _ _ _ _ h
        · replace h := h.2 hc
          refine e3_K [0, 0, 0] 59 [(2, 3), (0, l1), (0, (H 4 l1)), (3, 0)] [(0, 259), (0, l1), (2, 3)] (H2) (G3) (wZ L xs) (M := tbM16) rfl rfl trivial ?_
          refine e3_call (o := 0) (k := 19) (M2 := tbM19) (f1 := 1) (w1 := 25) (as := [(2, 3), (0, l1), (0, 259)]) (rest := []) (M := tbM16) rfl rfl rfl trivial (Nat.le_of_ble_eq_true rfl) (Nat.le_of_ble_eq_true rfl) (Nat.le_of_ble_eq_true rfl) ?_
          refine e3_mono (sT_cutName L xs _ _ _ _ _ h) (fun r H5 G6 h => ?_)
          obtain ⟨x7, rfl, h⟩ := h
          change e3_Ev _ _ _ _ 62 [(2, 3), (0, l1), (0, (H 4 l1)), (3, 0)] [(0, x7)] H5 G6 _
          exact e3_reti (M := tbM16) rfl rfl rfl ⟨_, rfl, h⟩
    · replace h := h.2 hc
      refine e3_K [0, 0, 0] 38 [(2, 3), (0, l1), (0, (H 4 l1)), (3, 0)] [(0, 258), (0, l1), (2, 3)] (H2) (G3) (wZ L xs) (M := tbM16) rfl rfl trivial ?_
      refine e3_call (o := 0) (k := 19) (M2 := tbM19) (f1 := 1) (w1 := 25) (as := [(2, 3), (0, l1), (0, 258)]) (rest := []) (M := tbM16) rfl rfl rfl trivial (Nat.le_of_ble_eq_true rfl) (Nat.le_of_ble_eq_true rfl) (Nat.le_of_ble_eq_true rfl) ?_
      refine e3_mono (sT_cutName L xs _ _ _ _ _ h) (fun r H8 G9 h => ?_)
      obtain ⟨x10, rfl, h⟩ := h
      change e3_Ev _ _ _ _ 41 [(2, 3), (0, l1), (0, (H 4 l1)), (3, 0)] [(0, x10)] H8 G9 _
      exact e3_reti (M := tbM16) rfl rfl rfl ⟨_, rfl, h⟩
  · replace h := h.2 hc
    refine e3_K [0, 0, 0, 0, 0] 15 [(2, 3), (0, l1), (3, 0), (3, 0)] [(1, 0), (0, l1), (0, l1), (0, 256), (2, 3)] (H) (G) (wZ L xs) (M := tbM16) rfl rfl trivial ?_
    refine e3_call (o := 0) (k := 17) (M2 := tbM17) (f1 := 0) (w1 := 0) (as := [(2, 3), (0, 256), (0, l1), (0, l1), (1, 0)]) (rest := []) (M := tbM16) rfl rfl rfl trivial (Nat.le_of_ble_eq_true rfl) (Nat.le_of_ble_eq_true rfl) (Nat.le_of_ble_eq_true rfl) ?_
    refine e3_mono (sT_put L xs _ _ _ _ _ _ _ h) (fun r H11 G12 h => ?_)
    obtain ⟨x13, rfl, h⟩ := h
    change e3_Ev _ _ _ _ 18 [(2, 3), (0, l1), (3, 0), (3, 0)] [(0, x13)] H11 G12 _
    exact e3_reti (M := tbM16) rfl rfl rfl ⟨_, rfl, h⟩
