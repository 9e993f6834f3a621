/-- LetterPost$Rule.<init>(II)V -/
def wU_init (Q : e3_H → e3_G → Prop) (l0 : Int) (l1 : Int) (l2 : Int) (H : e3_H) (G : e3_G) : Prop :=
  ((0 : Int) ≤ l0) ∧ (e3_ob G 9 l0) ∧ ∀ H1 : e3_H, H1 = e3_up H l0 3 1 → ∀ (H3 : e3_H) (G4 : e3_G), H3 = e3_nw H1 (G.length : Int) (fun _ => 0) → G4 = G ++ [(1, (8 : Int).toNat)] → (e3_ob G4 9 l0) ∧ ∀ H5 : e3_H, H5 = e3_up H3 l0 5 (G.length : Int) → ∀ (H7 : e3_H) (G8 : e3_G), H7 = e3_nw H5 (G4.length : Int) (fun _ => 0) → G8 = G4 ++ [(0, (2 : Int).toNat)] → (e3_ob G8 9 l0) ∧ ∀ H9 : e3_H, H9 = e3_up H7 l0 8 (G4.length : Int) → ∀ (H11 : e3_H) (G12 : e3_G), H11 = e3_nw H9 (G8.length : Int) (fun _ => 0) → G12 = G8 ++ [(0, (4 : Int).toNat)] → (e3_ob G12 9 l0) ∧ ∀ H13 : e3_H, H13 = e3_up H11 l0 9 (G8.length : Int) → ∀ (H15 : e3_H) (G16 : e3_G), H15 = e3_nw H13 (G12.length : Int) (fun _ => 0) → G16 = G12 ++ [(0, (4 : Int).toNat)] → (e3_ob G16 9 l0) ∧ ∀ H17 : e3_H, H17 = e3_up H15 l0 10 (G12.length : Int) → (e3_ob G16 9 l0) ∧ ∀ H19 : e3_H, H19 = e3_up H17 l0 11 0 → ∀ (H21 : e3_H) (G22 : e3_G), H21 = e3_nw H19 (G16.length : Int) (fun _ => 0) → G22 = G16 ++ [(0, (3 : Int).toNat)] → (e3_ob G22 9 l0) ∧ ∀ H23 : e3_H, H23 = e3_up H21 l0 16 (G16.length : Int) → ∀ (H25 : e3_H) (G26 : e3_G), H25 = e3_nw H23 (G22.length : Int) (fun _ => 0) → G26 = G22 ++ [(0, (3 : Int).toNat)] → (e3_ob G26 9 l0) ∧ ∀ H27 : e3_H, H27 = e3_up H25 l0 17 (G22.length : Int) → (e3_ob G26 9 l0) ∧ ∀ H29 : e3_H, H29 = e3_up H27 l0 0 l1 → (e3_ob G26 9 l0) ∧ ∀ H31 : e3_H, H31 = e3_up H29 l0 1 l2 → Q H31 G26
set_option maxRecDepth 100000 in
set_option maxHeartbeats 4000000 in
theorem sU_init (L : Nat) (xs : Nat → Int32) (Q : e3_H → e3_G → Prop) (l0 : Int) (l1 : Int) (l2 : Int) (H : e3_H) (G : e3_G) (h : wU_init Q l0 l1 l2 H G) : e3_Ev (wB L xs) 1 40 46 0 [(2, l0), (0, l1), (0, l2)] [] H G (e3_qv Q) := by
  unfold wU_init at h
  refine e3_K [0] 1 [(2, l0), (0, l1), (0, l2)] [(2, l0)] (H) (G) (wZ L xs) (M := tbM46) rfl rfl trivial ?_
  obtain ⟨oz, h⟩ := h
  refine e3_oi (M := tbM46) rfl rfl rfl oz (Nat.le_of_ble_eq_true rfl) (Nat.le_of_ble_eq_true rfl) ?_
  obtain ⟨o2, h⟩ := h
  refine e3_K [0, 0, 3] 9 [(2, l0), (0, l1), (0, l2)] [] (e3_up H l0 3 1) (G) (wZ L xs) (M := tbM46) rfl rfl ⟨⟨o2, trivial⟩, trivial⟩ ?_
  generalize hH1 : (e3_up H l0 3 1) = H1
  replace h := h H1 hH1.symm
  refine e3_K [0, 0, 2] 14 [(2, l0), (0, l1), (0, l2)] [(2, (G.length : Int)), (2, l0)] (e3_nw H1 (G.length : Int) (fun _ => 0)) (G ++ [(1, (8 : Int).toNat)]) (wZ L xs) (M := tbM46) rfl rfl ⟨⟨by decide, by decide⟩, trivial⟩ ?_
  generalize hH3 : (e3_nw H1 (G.length : Int) (fun _ => 0)) = H3
  generalize hG4 : (G ++ [(1, (8 : Int).toNat)]) = G4
  replace h := h H3 G4 hH3.symm hG4.symm
  obtain ⟨o6, h⟩ := h
  refine e3_K [3] 17 [(2, l0), (0, l1), (0, l2)] [] (e3_up H3 l0 5 (G.length : Int)) (G4) (wZ L xs) (M := tbM46) rfl rfl ⟨⟨o6, trivial⟩, trivial⟩ ?_
  generalize hH5 : (e3_up H3 l0 5 (G.length : Int)) = H5
  replace h := h H5 hH5.symm
  refine e3_K [0, 0, 2] 21 [(2, l0), (0, l1), (0, l2)] [(2, (G4.length : Int)), (2, l0)] (e3_nw H5 (G4.length : Int) (fun _ => 0)) (G4 ++ [(0, (2 : Int).toNat)]) (wZ L xs) (M := tbM46) rfl rfl ⟨⟨by decide, by decide⟩, trivial⟩ ?_
  generalize hH7 : (e3_nw H5 (G4.length : Int) (fun _ => 0)) = H7
  generalize hG8 : (G4 ++ [(0, (2 : Int).toNat)]) = G8
  replace h := h H7 G8 hH7.symm hG8.symm
  obtain ⟨o10, h⟩ := h
  refine e3_K [3] 24 [(2, l0), (0, l1), (0, l2)] [] (e3_up H7 l0 8 (G4.length : Int)) (G8) (wZ L xs) (M := tbM46) rfl rfl ⟨⟨o10, trivial⟩, trivial⟩ ?_
  generalize hH9 : (e3_up H7 l0 8 (G4.length : Int)) = H9
  replace h := h H9 hH9.symm
  refine e3_K [0, 0, 2] 28 [(2, l0), (0, l1), (0, l2)] [(2, (G8.length : Int)), (2, l0)] (e3_nw H9 (G8.length : Int) (fun _ => 0)) (G8 ++ [(0, (4 : Int).toNat)]) (wZ L xs) (M := tbM46) rfl rfl ⟨⟨by decide, by decide⟩, trivial⟩ ?_
  generalize hH11 : (e3_nw H9 (G8.length : Int) (fun _ => 0)) = H11
  generalize hG12 : (G8 ++ [(0, (4 : Int).toNat)]) = G12
  replace h := h H11 G12 hH11.symm hG12.symm
  obtain ⟨o14, h⟩ := h
  refine e3_K [3] 31 [(2, l0), (0, l1), (0, l2)] [] (e3_up H11 l0 9 (G8.length : Int)) (G12) (wZ L xs) (M := tbM46) rfl rfl ⟨⟨o14, trivial⟩, trivial⟩ ?_
  generalize hH13 : (e3_up H11 l0 9 (G8.length : Int)) = H13
  replace h := h H13 hH13.symm
  refine e3_K [0, 0, 2] 35 [(2, l0), (0, l1), (0, l2)] [(2, (G12.length : Int)), (2, l0)] (e3_nw H13 (G12.length : Int) (fun _ => 0)) (G12 ++ [(0, (4 : Int).toNat)]) (wZ L xs) (M := tbM46) rfl rfl ⟨⟨by decide, by decide⟩, trivial⟩ ?_
  generalize hH15 : (e3_nw H13 (G12.length : Int) (fun _ => 0)) = H15
  generalize hG16 : (G12 ++ [(0, (4 : Int).toNat)]) = G16
  replace h := h H15 G16 hH15.symm hG16.symm
  obtain ⟨o18, h⟩ := h
  refine e3_K [3] 38 [(2, l0), (0, l1), (0, l2)] [] (e3_up H15 l0 10 (G12.length : Int)) (G16) (wZ L xs) (M := tbM46) rfl rfl ⟨⟨o18, trivial⟩, trivial⟩ ?_
  generalize hH17 : (e3_up H15 l0 10 (G12.length : Int)) = H17
  replace h := h H17 hH17.symm
  obtain ⟨o20, h⟩ := h
  refine e3_K [0, 0, 3] 43 [(2, l0), (0, l1), (0, l2)] [] (e3_up H17 l0 11 0) (G16) (wZ L xs) (M := tbM46) rfl rfl ⟨⟨o20, trivial⟩, trivial⟩ ?_
  generalize hH19 : (e3_up H17 l0 11 0) = H19
  replace h := h H19 hH19.symm
  refine e3_K [0, 0, 2] 47 [(2, l0), (0, l1), (0, l2)] [(2, (G16.length : Int)), (2, l0)] (e3_nw H19 (G16.length : Int) (fun _ => 0)) (G16 ++ [(0, (3 : Int).toNat)]) (wZ L xs) (M := tbM46) rfl rfl ⟨⟨by decide, by decide⟩, trivial⟩ ?_
  generalize hH21 : (e3_nw H19 (G16.length : Int) (fun _ => 0)) = H21
  generalize hG22 : (G16 ++ [(0, (3 : Int).toNat)]) = G22
  replace h := h H21 G22 hH21.symm hG22.symm
  obtain ⟨o24, h⟩ := h
  refine e3_K [3] 50 [(2, l0), (0, l1), (0, l2)] [] (e3_up H21 l0 16 (G16.length : Int)) (G22) (wZ L xs) (M := tbM46) rfl rfl ⟨⟨o24, trivial⟩, trivial⟩ ?_
  generalize hH23 : (e3_up H21 l0 16 (G16.length : Int)) = H23
  replace h := h H23 hH23.symm
  refine e3_K [0, 0, 2] 54 [(2, l0), (0, l1), (0, l2)] [(2, (G22.length : Int)), (2, l0)] (e3_nw H23 (G22.length : Int) (fun _ => 0)) (G22 ++ [(0, (3 : Int).toNat)]) (wZ L xs) (M := tbM46) rfl rfl ⟨⟨by decide, by decide⟩, trivial⟩ ?_
  generalize hH25 : (e3_nw H23 (G22.length : Int) (fun _ => 0)) = H25
  generalize hG26 : (G22 ++ [(0, (3 : Int).toNat)]) = G26
  replace h := h H25 G26 hH25.symm hG26.symm
  obtain ⟨o28, h⟩ := h
  refine e3_K [3] 57 [(2, l0), (0, l1), (0, l2)] [] (e3_up H25 l0 17 (G22.length : Int)) (G26) (wZ L xs) (M := tbM46) rfl rfl ⟨⟨o28, trivial⟩, trivial⟩ ?_
  generalize hH27 : (e3_up H25 l0 17 (G22.length : Int)) = H27
  replace h := h H27 hH27.symm
  obtain ⟨o30, h⟩ := h
  refine e3_K [0, 0, 3] 62 [(2, l0), (0, l1), (0, l2)] [] (e3_up H27 l0 0 l1) (G26) (wZ L xs) (M := tbM46) rfl rfl ⟨⟨o30, trivial⟩, trivial⟩ ?_
  generalize hH29 : (e3_up H27 l0 0 l1) = H29
  replace h := h H29 hH29.symm
  obtain ⟨o32, h⟩ := h
  refine e3_K [0, 0, 3] 67 [(2, l0), (0, l1), (0, l2)] [] (e3_up H29 l0 1 l2) (G26) (wZ L xs) (M := tbM46) rfl rfl ⟨⟨o32, trivial⟩, trivial⟩ ?_
  generalize hH31 : (e3_up H29 l0 1 l2) = H31
  replace h := h H31 hH31.symm
  exact e3_retv (M := tbM46) rfl rfl rfl ⟨rfl, h⟩
/-- LetterPost$Reader.readComma()Z -/
def wR_readComma (Q : Int → e3_H → e3_G → Prop)  (H : e3_H) (G : e3_G) : Prop :=
  ((((H 3 7) : Int) = 44 → (wT_step (fun H1 G2 => Q 1 H1 G2) H G)) ∧ (¬ (((H 3 7) : Int) = 44) → (wR_failHere (fun x6 H4 G5 => ((x6 : Int) = 0 ∨ x6 = 1) ∧ Q x6 H4 G5) 6 H G)))
set_option maxRecDepth 100000 in
set_option maxHeartbeats 4000000 in
theorem sR_readComma (L : Nat) (xs : Nat → Int32) (Q : Int → e3_H → e3_G → Prop)  (H : e3_H) (G : e3_G) (h : wR_readComma Q  H G) : e3_Ev (wB L xs) 1 21 48 0 [(2, 14)] [] H G (e3_q0 Q) := by
  unfold wR_readComma at h
  refine e3_K [0, 4, 2, 0] 9 [(2, 14)] [(0, 44), (0, (H 3 7))] (H) (G) (wZ L xs) (M := tbM48) rfl rfl ⟨trivial, trivial, trivial⟩ ?_
  refine e3_br (M := tbM48) rfl rfl rfl Iff.rfl (fun hc => ?_) (fun hc => ?_)
  · replace h := h.1 hc
    refine e3_K [0, 4] 23 [(2, 14)] [(2, 3)] (H) (G) (wZ L xs) (M := tbM48) rfl rfl ⟨trivial, trivial⟩ ?_
    refine e3_call (o := 0) (k := 25) (M2 := tbM25) (f1 := 0) (w1 := 0) (as := [(2, 3)]) (rest := []) (M := tbM48) rfl rfl rfl trivial (Nat.le_of_ble_eq_true rfl) (Nat.le_of_ble_eq_true rfl) (Nat.le_of_ble_eq_true rfl) ?_
    refine e3_mono (sT_step L xs _ _ _ h) (fun r H1 G2 h => ?_)
    obtain ⟨rfl, h⟩ := h
    change e3_Ev _ _ _ _ 26 [(2, 14)] [] H1 G2 _
    refine e3_K [0] 27 [(2, 14)] [(0, 1)] (H1) (G2) (wZ L xs) (M := tbM48) rfl rfl trivial ?_
    exact e3_retb (M := tbM48) rfl rfl rfl (Or.inr rfl) ⟨_, rfl, h⟩
  · replace h := h.2 hc
    refine e3_K [0, 0] 15 [(2, 14)] [(0, 6), (2, 14)] (H) (G) (wZ L xs) (M := tbM48) rfl rfl trivial ?_
    refine e3_call (o := 0) (k := 27) (M2 := tbM27) (f1 := 0) (w1 := 0) (as := [(2, 14), (0, 6)]) (rest := []) (M := tbM48) rfl rfl rfl trivial (Nat.le_of_ble_eq_true rfl) (Nat.le_of_ble_eq_true rfl) (Nat.le_of_ble_eq_true rfl) ?_
    refine e3_mono (sR_failHere L xs _ _ _ _ h) (fun r H4 G5 h => ?_)
    obtain ⟨x6, rfl, h⟩ := h
    change e3_Ev _ _ _ _ 18 [(2, 14)] [(0, x6)] H4 G5 _
    exact e3_retb (M := tbM48) rfl rfl rfl h.1 ⟨_, rfl, h.2⟩
/-- LetterPost$Rule.nameNumber(J)I -/
def wU_nameNumber_2 (Q : Int → e3_H → e3_G → Prop) : Nat → Int → Int → Int → e3_H → e3_G → Prop
  | 0, _, _, _, _, _ => False
  | nn + 1, l0, l1, l3, H, G => (e3_ob G 9 l0) ∧ (((l3 : Int) < (H l0 4) → (e3_ob G 9 l0) ∧ (e3_oa G 1 (H l0 5) l3) ∧ ((((H (H l0 5) l3) : Int) = l1 → Q l3 H G) ∧ (¬ (((H (H l0 5) l3) : Int) = l1) → (wU_nameNumber_2 Q nn l0 l1 (e3_w32 (l3 + 1)) H G)))) ∧ (¬ ((l3 : Int) < (H l0 4)) → Q (-1) H G))
def wU_nameNumber (Q : Int → e3_H → e3_G → Prop) (l0 : Int) (l1 : Int) (H : e3_H) (G : e3_G) : Prop :=
  (∃ n, wU_nameNumber_2 Q n l0 l1 0 H G)
set_option maxRecDepth 100000 in
set_option maxHeartbeats 4000000 in
theorem sU_nameNumber_2 (L : Nat) (xs : Nat → Int32) (Q : Int → e3_H → e3_G → Prop) : ∀ (nl : Nat) (l0 : Int) (l1 : Int) (l3 : Int) (H : e3_H) (G : e3_G), wU_nameNumber_2 Q nl l0 l1 l3 H G → e3_Ev (wB L xs) 0 0 52 2 [(2, l0), (1, l1), (3, 0), (0, l3)] [] H G (e3_q0 Q) := by
  intro nl
  induction nl with
  | zero => intro l0 l1 l3 H G h; exact h.elim
  | succ nn ih =>
    intro l0 l1 l3 H G h
    have h : (e3_ob G 9 l0) ∧ (((l3 : Int) < (H l0 4) → (e3_ob G 9 l0) ∧ (e3_oa G 1 (H l0 5) l3) ∧ ((((H (H l0 5) l3) : Int) = l1 → Q l3 H G) ∧ (¬ (((H (H l0 5) l3) : Int) = l1) → (wU_nameNumber_2 Q nn l0 l1 (e3_w32 (l3 + 1)) H G)))) ∧ (¬ ((l3 : Int) < (H l0 4)) → Q (-1) H G)) := h
    obtain ⟨o1, h⟩ := h
    refine e3_K [0, 0, 3] 7 [(2, l0), (1, l1), (3, 0), (0, l3)] [(0, (H l0 4)), (0, l3)] (H) (G) (wZ L xs) (M := tbM52) rfl rfl ⟨o1, trivial⟩ ?_
    refine e3_br (M := tbM52) rfl rfl rfl Iff.rfl (fun hc => ?_) (fun hc => ?_)
    · replace h := h.1 hc
      obtain ⟨o2, o3, h⟩ := h
      refine e3_K [0, 3, 0, 4, 0, 0] 18 [(2, l0), (1, l1), (3, 0), (0, l3)] [(0, (e3_cmp (H (H l0 5) l3) l1))] (H) (G) (wZ L xs) (M := tbM52) rfl rfl ⟨o2, o3, trivial⟩ ?_
      refine e3_br (M := tbM52) rfl rfl rfl e3_cmp_eq (fun hc => ?_) (fun hc => ?_)
      · replace h := h.1 hc
        refine e3_K [0] 22 [(2, l0), (1, l1), (3, 0), (0, l3)] [(0, l3)] (H) (G) (wZ L xs) (M := tbM52) rfl rfl trivial ?_
        exact e3_reti (M := tbM52) rfl rfl rfl ⟨_, rfl, h⟩
      · replace h := h.2 hc
        refine e3_K [0, 0] 2 [(2, l0), (1, l1), (3, 0), (0, (e3_w32 (l3 + 1)))] [] (H) (G) (wZ L xs) (M := tbM52) rfl rfl trivial ?_
        exact ih _ _ _ _ _ h
    · replace h := h.2 hc
      refine e3_K [0] 30 [(2, l0), (1, l1), (3, 0), (0, l3)] [(0, (-1))] (H) (G) (wZ L xs) (M := tbM52) rfl rfl trivial ?_
      exact e3_reti (M := tbM52) rfl rfl rfl ⟨_, rfl, h⟩
set_option maxRecDepth 100000 in
set_option maxHeartbeats 4000000 in
theorem sU_nameNumber (L : Nat) (xs : Nat → Int32) (Q : Int → e3_H → e3_G → Prop) (l0 : Int) (l1 : Int) (H : e3_H) (G : e3_G) (h : wU_nameNumber Q l0 l1 H G) : e3_Ev (wB L xs) 0 0 52 0 [(2, l0), (1, l1), (3, 0), (3, 0)] [] H G (e3_q0 Q) := by
  unfold wU_nameNumber at h
  refine e3_K [0, 0] 2 [(2, l0), (1, l1), (3, 0), (0, 0)] [] (H) (G) (wZ L xs) (M := tbM52) rfl rfl trivial ?_
  obtain ⟨nl, h⟩ := h
  exact sU_nameNumber_2 L xs Q nl _ _ _ _ _ h
/-- LetterPost$Rule.nameSort(I)I -/
def wU_nameSort_32 (Q : Int → e3_H → e3_G → Prop) (s0 : Int) (H : e3_H) (G : e3_G) : Prop :=
  Q s0 H G
def wU_nameSort_31 (Q : Int → e3_H → e3_G → Prop)  (H : e3_H) (G : e3_G) : Prop :=
  (wU_nameSort_32 Q (-1) H G)
def wU_nameSort (Q : Int → e3_H → e3_G → Prop) (l0 : Int) (l1 : Int) (H : e3_H) (G : e3_G) : Prop :=
  (((l1 : Int) < 0 → (wU_nameSort_31 Q H G)) ∧ (¬ ((l1 : Int) < 0) → (e3_ob G 9 l0) ∧ (((l1 : Int) < (H l0 4) → (e3_ob G 9 l0) ∧ (wU_nameSort_32 Q (e3_w32 ((e3_w32 (e3_land (e3_lushr (H l0 6) (e3_w32 (8 * l1))) 255)) - 1)) H G)) ∧ (¬ ((l1 : Int) < (H l0 4)) → (wU_nameSort_31 Q H G)))))
set_option maxRecDepth 100000 in
set_option maxHeartbeats 4000000 in
theorem sU_nameSort_32 (L : Nat) (xs : Nat → Int32) (Q : Int → e3_H → e3_G → Prop) (s0 : Int) (H : e3_H) (G : e3_G) (h : wU_nameSort_32 Q s0 H G) : e3_Ev (wB L xs) 0 0 53 32 [(3, 0), (3, 0)] [(0, s0)] H G (e3_q0 Q) := by
  unfold wU_nameSort_32 at h
  exact e3_reti (M := tbM53) rfl rfl rfl ⟨_, rfl, h⟩
set_option maxRecDepth 100000 in
set_option maxHeartbeats 4000000 in
theorem sU_nameSort_31 (L : Nat) (xs : Nat → Int32) (Q : Int → e3_H → e3_G → Prop)  (H : e3_H) (G : e3_G) (h : wU_nameSort_31 Q  H G) : e3_Ev (wB L xs) 0 0 53 31 [(3, 0), (3, 0)] [] H G (e3_q0 Q) := by
  unfold wU_nameSort_31 at h
  refine e3_K [0] 32 [(3, 0), (3, 0)] [(0, (-1))] (H) (G) (wZ L xs) (M := tbM53) rfl rfl trivial ?_
  exact sU_nameSort_32 L xs Q _ _ _ h
set_option maxRecDepth 100000 in
set_option maxHeartbeats 4000000 in
theorem sU_nameSort (L : Nat) (xs : Nat → Int32) (Q : Int → e3_H → e3_G → Prop) (l0 : Int) (l1 : Int) (H : e3_H) (G : e3_G) (h : wU_nameSort Q l0 l1 H G) : e3_Ev (wB L xs) 0 0 53 0 [(2, l0), (0, l1)] [] H G (e3_q0 Q) := by
  unfold wU_nameSort at h
  refine e3_K [0] 1 [(2, l0), (0, l1)] [(0, l1)] (H) (G) (wZ L xs) (M := tbM53) rfl rfl trivial ?_
  refine e3_br (M := tbM53) rfl rfl rfl Iff.rfl (fun hc => ?_) (fun hc => ?_)
  · replace h := h.1 hc
    refine e3_fgt [false, false] ?_
    exact sU_nameSort_31 L xs Q _ _ h
  · replace h := h.2 hc
    obtain ⟨o1, h⟩ := h
    refine e3_K [0, 0, 3] 9 [(2, l0), (0, l1)] [(0, (H l0 4)), (0, l1)] (H) (G) (wZ L xs) (M := tbM53) rfl rfl ⟨o1, trivial⟩ ?_
    refine e3_br (M := tbM53) rfl rfl rfl Iff.rfl (fun hc => ?_) (fun hc => ?_)
    · replace h := h.1 hc
      obtain ⟨o2, h⟩ := h
      refine e3_K [0, 3, 0, 0, 0, 0, 2, 0, 0, 0, 0, 0] 32 [(2, l0), (0, l1)] [(0, (e3_w32 ((e3_w32 (e3_land (e3_lushr (H l0 6) (e3_w32 (8 * l1))) 255)) - 1)))] (H) (G) (wZ L xs) (M := tbM53) rfl rfl ⟨o2, trivial, trivial⟩ ?_
      refine e3_fgt [false, false] ?_
      exact sU_nameSort_32 L xs Q _ _ _ h
    · replace h := h.2 hc
      refine e3_fgt [false, false] ?_
      exact sU_nameSort_31 L xs Q _ _ h
/-- LetterPost$Rule.nameFault(J)I -/
def wU_nameFault_39 (Q : Int → e3_H → e3_G → Prop) (s0 : Int) (H : e3_H) (G : e3_G) : Prop :=
  Q s0 H G
def wU_nameFault_25 (Q : Int → e3_H → e3_G → Prop) (s0 : Int) (H : e3_H) (G : e3_G) : Prop :=
  Q s0 H G
def wU_nameFault (Q : Int → e3_H → e3_G → Prop) (l0 : Int) (l1 : Int) (H : e3_H) (G : e3_G) : Prop :=
  (e3_ob G 9 l0) ∧ (wU_nameNumber (fun x3 H1 G2 => (((x3 : Int) < 0 → (e3_ob G2 9 l0) ∧ ((((H1 l0 4) : Int) < 8 → (wU_nameFault_25 Q 0 H1 G2)) ∧ (¬ (((H1 l0 4) : Int) < 8) → (wU_nameFault_25 Q 9 H1 G2)))) ∧ (¬ ((x3 : Int) < 0) → (e3_ob G2 9 l0) ∧ (wU_nameSort (fun x7 H5 G6 => (((x7 : Int) < 0 → (wU_nameFault_39 Q 0 H5 G6)) ∧ (¬ ((x7 : Int) < 0) → (wU_nameFault_39 Q 3 H5 G6)))) l0 x3 H1 G2)))) l0 l1 H G)
set_option maxRecDepth 100000 in
set_option maxHeartbeats 4000000 in
theorem sU_nameFault_39 (L : Nat) (xs : Nat → Int32) (Q : Int → e3_H → e3_G → Prop) (s0 : Int) (H : e3_H) (G : e3_G) (h : wU_nameFault_39 Q s0 H G) : e3_Ev (wB L xs) 1 23 51 39 [(3, 0), (3, 0), (3, 0), (3, 0)] [(0, s0)] H G (e3_q0 Q) := by
  unfold wU_nameFault_39 at h
  exact e3_reti (M := tbM51) rfl rfl rfl ⟨_, rfl, h⟩
set_option maxRecDepth 100000 in
set_option maxHeartbeats 4000000 in
theorem sU_nameFault_25 (L : Nat) (xs : Nat → Int32) (Q : Int → e3_H → e3_G → Prop) (s0 : Int) (H : e3_H) (G : e3_G) (h : wU_nameFault_25 Q s0 H G) : e3_Ev (wB L xs) 1 23 51 25 [(3, 0), (3, 0), (3, 0), (3, 0)] [(0, s0)] H G (e3_q0 Q) := by
  unfold wU_nameFault_25 at h
  exact e3_reti (M := tbM51) rfl rfl rfl ⟨_, rfl, h⟩
set_option maxRecDepth 100000 in
set_option maxHeartbeats 4000000 in
theorem sU_nameFault (L : Nat) (xs : Nat → Int32) (Q : Int → e3_H → e3_G → Prop) (l0 : Int) (l1 : Int) (H : e3_H) (G : e3_G) (h : wU_nameFault Q l0 l1 H G) : e3_Ev (wB L xs) 1 23 51 0 [(2, l0), (1, l1), (3, 0), (3, 0)] [] H G (e3_q0 Q) := by
  unfold wU_nameFault at h
  refine e3_K [0, 0] 2 [(2, l0), (1, l1), (3, 0), (3, 0)] [(1, l1), (2, l0)] (H) (G) (wZ L xs) (M := tbM51) rfl rfl trivial ?_
  obtain ⟨oz, h⟩ := h
  refine e3_call (o := 1) (k := 52) (M2 := tbM52) (f1 := 0) (w1 := 0) (as := [(2, l0), (1, l1)]) (rest := []) (M := tbM51) rfl rfl rfl oz (Nat.le_of_ble_eq_true rfl) (Nat.le_of_ble_eq_true rfl) (Nat.le_of_ble_eq_true rfl) ?_
  refine e3_mono (sU_nameNumber L xs _ _ _ _ _ h) (fun r H1 G2 h => ?_)
  obtain ⟨x3, rfl, h⟩ := h
  change e3_Ev _ _ _ _ 5 [(2, l0), (1, l1), (3, 0), (3, 0)] [(0, x3)] H1 G2 _
  refine e3_K [0, 0] 7 [(2, l0), (1, l1), (3, 0), (0, x3)] [(0, x3)] (H1) (G2) (wZ L xs) (M := tbM51) rfl rfl trivial ?_
  refine e3_br (M := tbM51) rfl rfl rfl Iff.rfl (fun hc => ?_) (fun hc => ?_)
  · replace h := h.1 hc
    obtain ⟨o4, h⟩ := h
    refine e3_K [0, 3, 0] 16 [(2, l0), (1, l1), (3, 0), (0, x3)] [(0, 8), (0, (H1 l0 4))] (H1) (G2) (wZ L xs) (M := tbM51) rfl rfl ⟨o4, trivial⟩ ?_
    refine e3_br (M := tbM51) rfl rfl rfl Iff.rfl (fun hc => ?_) (fun hc => ?_)
    · replace h := h.1 hc
      refine e3_K [0] 25 [(2, l0), (1, l1), (3, 0), (0, x3)] [(0, 0)] (H1) (G2) (wZ L xs) (M := tbM51) rfl rfl trivial ?_
      refine e3_fgt [false, false, false, false] ?_
      exact sU_nameFault_25 L xs Q _ _ _ h
    · replace h := h.2 hc
      refine e3_K [0, 0] 25 [(2, l0), (1, l1), (3, 0), (0, x3)] [(0, 9)] (H1) (G2) (wZ L xs) (M := tbM51) rfl rfl trivial ?_
      refine e3_fgt [false, false, false, false] ?_
      exact sU_nameFault_25 L xs Q _ _ _ h
  · replace h := h.2 hc
    refine e3_K [0, 0] 28 [(2, l0), (1, l1), (3, 0), (0, x3)] [(0, x3), (2, l0)] (H1) (G2) (wZ L xs) (M := tbM51) rfl rfl trivial ?_
    obtain ⟨oz, h⟩ := h
    refine e3_call (o := 1) (k := 53) (M2 := tbM53) (f1 := 0) (w1 := 0) (as := [(2, l0), (0, x3)]) (rest := []) (M := tbM51) rfl rfl rfl oz (Nat.le_of_ble_eq_true rfl) (Nat.le_of_ble_eq_true rfl) (Nat.le_of_ble_eq_true rfl) ?_
    refine e3_mono (sU_nameSort L xs _ _ _ _ _ h) (fun r H5 G6 h => ?_)
    obtain ⟨x7, rfl, h⟩ := h
    change e3_Ev _ _ _ _ 31 [(2, l0), (1, l1), (3, 0), (0, x3)] [(0, x7)] H5 G6 _
    refine e3_br (M := tbM51) rfl rfl rfl Iff.rfl (fun hc => ?_) (fun hc => ?_)
    · replace h := h.1 hc
      refine e3_K [0, 0] 39 [(2, l0), (1, l1), (3, 0), (0, x3)] [(0, 0)] (H5) (G6) (wZ L xs) (M := tbM51) rfl rfl trivial ?_
      refine e3_fgt [false, false, false, false] ?_
      exact sU_nameFault_39 L xs Q _ _ _ h
    · replace h := h.2 hc
      refine e3_K [0] 39 [(2, l0), (1, l1), (3, 0), (0, x3)] [(0, 3)] (H5) (G6) (wZ L xs) (M := tbM51) rfl rfl trivial ?_
      refine e3_fgt [false, false, false, false] ?_
      exact sU_nameFault_39 L xs Q _ _ _ h
/-- LetterPost$Kinds.isOrUnder(II)Z -/
def wK_isOrUnder_44 (Q : Int → e3_H → e3_G → Prop)  (H : e3_H) (G : e3_G) : Prop :=
  Q 0 H G
def wK_isOrUnder_5 (Q : Int → e3_H → e3_G → Prop) : Nat → Int → Int → Int → e3_H → e3_G → Prop
  | 0, _, _, _, _, _ => False
  | nn + 1, l2, l3, l4, H, G => (((l4 : Int) < 24 → (((l3 : Int) < 0 → (wK_isOrUnder_44 Q H G)) ∧ (¬ ((l3 : Int) < 0) → (((l3 : Int) < (H 8 0) → (((l3 : Int) = l2 → Q 1 H G) ∧ (¬ ((l3 : Int) = l2) → ((0 : Int) ≤ l3 ∧ (l3 : Int) < 24) ∧ (wK_isOrUnder_5 Q nn l2 (H 10 l3) (e3_w32 (l4 + 1)) H G)))) ∧ (¬ ((l3 : Int) < (H 8 0)) → (wK_isOrUnder_44 Q H G)))))) ∧ (¬ ((l4 : Int) < 24) → (wK_isOrUnder_44 Q H G)))
def wK_isOrUnder (Q : Int → e3_H → e3_G → Prop) (l1 : Int) (l2 : Int) (H : e3_H) (G : e3_G) : Prop :=
  (∃ n, wK_isOrUnder_5 Q n l2 l1 0 H G)
set_option maxRecDepth 100000 in
set_option maxHeartbeats 4000000 in
theorem sK_isOrUnder_44 (L : Nat) (xs : Nat → Int32) (Q : Int → e3_H → e3_G → Prop)  (H : e3_H) (G : e3_G) (h : wK_isOrUnder_44 Q  H G) : e3_Ev (wB L xs) 0 0 55 44 [(3, 0), (3, 0), (3, 0), (3, 0), (3, 0)] [] H G (e3_q0 Q) := by
  unfold wK_isOrUnder_44 at h
  refine e3_K [0] 45 [(3, 0), (3, 0), (3, 0), (3, 0), (3, 0)] [(0, 0)] (H) (G) (wZ L xs) (M := tbM55) rfl rfl trivial ?_
  exact e3_retb (M := tbM55) rfl rfl rfl (Or.inl rfl) ⟨_, rfl, h⟩
set_option maxRecDepth 100000 in
set_option maxHeartbeats 4000000 in
theorem sK_isOrUnder_5 (L : Nat) (xs : Nat → Int32) (Q : Int → e3_H → e3_G → Prop) : ∀ (nl : Nat) (l2 : Int) (l3 : Int) (l4 : Int) (H : e3_H) (G : e3_G), wK_isOrUnder_5 Q nl l2 l3 l4 H G → e3_Ev (wB L xs) 0 0 55 5 [(2, 8), (3, 0), (0, l2), (0, l3), (0, l4)] [] H G (e3_q0 Q) := by
  intro nl
  induction nl with
  | zero => intro l2 l3 l4 H G h; exact h.elim
  | succ nn ih =>
    intro l2 l3 l4 H G h
    have h : (((l4 : Int) < 24 → (((l3 : Int) < 0 → (wK_isOrUnder_44 Q H G)) ∧ (¬ ((l3 : Int) < 0) → (((l3 : Int) < (H 8 0) → (((l3 : Int) = l2 → Q 1 H G) ∧ (¬ ((l3 : Int) = l2) → ((0 : Int) ≤ l3 ∧ (l3 : Int) < 24) ∧ (wK_isOrUnder_5 Q nn l2 (H 10 l3) (e3_w32 (l4 + 1)) H G)))) ∧ (¬ ((l3 : Int) < (H 8 0)) → (wK_isOrUnder_44 Q H G)))))) ∧ (¬ ((l4 : Int) < 24) → (wK_isOrUnder_44 Q H G))) := h
    refine e3_K [0, 0] 9 [(2, 8), (3, 0), (0, l2), (0, l3), (0, l4)] [(0, 24), (0, l4)] (H) (G) (wZ L xs) (M := tbM55) rfl rfl trivial ?_
    refine e3_br (M := tbM55) rfl rfl rfl Iff.rfl (fun hc => ?_) (fun hc => ?_)
    · replace h := h.1 hc
      refine e3_K [0] 13 [(2, 8), (3, 0), (0, l2), (0, l3), (0, l4)] [(0, l3)] (H) (G) (wZ L xs) (M := tbM55) rfl rfl trivial ?_
      refine e3_br (M := tbM55) rfl rfl rfl Iff.rfl (fun hc => ?_) (fun hc => ?_)
      · replace h := h.1 hc
        refine e3_fgt [false, false, false, false, false] ?_
        exact sK_isOrUnder_44 L xs Q _ _ h
      · replace h := h.2 hc
        refine e3_K [0, 0, 2] 21 [(2, 8), (3, 0), (0, l2), (0, l3), (0, l4)] [(0, (H 8 0)), (0, l3)] (H) (G) (wZ L xs) (M := tbM55) rfl rfl ⟨trivial, trivial⟩ ?_
        refine e3_br (M := tbM55) rfl rfl rfl Iff.rfl (fun hc => ?_) (fun hc => ?_)
        · replace h := h.1 hc
          refine e3_K [0, 0] 26 [(2, 8), (3, 0), (0, l2), (0, l3), (0, l4)] [(0, l2), (0, l3)] (H) (G) (wZ L xs) (M := tbM55) rfl rfl trivial ?_
          refine e3_br (M := tbM55) rfl rfl rfl Iff.rfl (fun hc => ?_) (fun hc => ?_)
          · replace h := h.1 hc
            refine e3_K [0] 30 [(2, 8), (3, 0), (0, l2), (0, l3), (0, l4)] [(0, 1)] (H) (G) (wZ L xs) (M := tbM55) rfl rfl trivial ?_
            exact e3_retb (M := tbM55) rfl rfl rfl (Or.inr rfl) ⟨_, rfl, h⟩
          · replace h := h.2 hc
            obtain ⟨o1, h⟩ := h
            refine e3_K [0, 4, 0, 2, 0, 0, 0] 5 [(2, 8), (3, 0), (0, l2), (0, (H 10 l3)), (0, (e3_w32 (l4 + 1)))] [] (H) (G) (wZ L xs) (M := tbM55) rfl rfl ⟨trivial, o1, trivial⟩ ?_
            exact ih _ _ _ _ _ h
        · replace h := h.2 hc
          refine e3_fgt [false, false, false, false, false] ?_
          exact sK_isOrUnder_44 L xs Q _ _ h
    · replace h := h.2 hc
      refine e3_fgt [false, false, false, false, false] ?_
      exact sK_isOrUnder_44 L xs Q _ _ h
set_option maxRecDepth 100000 in
set_option maxHeartbeats 4000000 in
theorem sK_isOrUnder (L : Nat) (xs : Nat → Int32) (Q : Int → e3_H → e3_G → Prop) (l1 : Int) (l2 : Int) (H : e3_H) (G : e3_G) (h : wK_isOrUnder Q l1 l2 H G) : e3_Ev (wB L xs) 0 0 55 0 [(2, 8), (0, l1), (0, l2), (3, 0), (3, 0)] [] H G (e3_q0 Q) := by
  unfold wK_isOrUnder at h
  refine e3_K [0, 0, 0, 0] 5 [(2, 8), (0, l1), (0, l2), (0, l1), (0, 0)] [] (H) (G) (wZ L xs) (M := tbM55) rfl rfl trivial ?_
  refine e3_fgt [true, false, true, true, true] ?_
  obtain ⟨nl, h⟩ := h
  exact sK_isOrUnder_5 L xs Q nl _ _ _ _ _ h
/-- LetterPost$Kinds.canStand(II)Z -/
def wK_canStand_32 (Q : Int → e3_H → e3_G → Prop) (s0 : Int) (H : e3_H) (G : e3_G) : Prop :=
  ((s0 : Int) = 0 ∨ s0 = 1) ∧ Q s0 H G
def wK_canStand_31 (Q : Int → e3_H → e3_G → Prop)  (H : e3_H) (G : e3_G) : Prop :=
  (wK_canStand_32 Q 0 H G)
def wK_canStand_27 (Q : Int → e3_H → e3_G → Prop)  (H : e3_H) (G : e3_G) : Prop :=
  (wK_canStand_32 Q 1 H G)
def wK_canStand (Q : Int → e3_H → e3_G → Prop) (l1 : Int) (l2 : Int) (H : e3_H) (G : e3_G) : Prop :=
  (((l2 : Int) < 3 → (wK_canStand_31 Q H G)) ∧ (¬ ((l2 : Int) < 3) → (wK_isOrUnder (fun x3 H1 G2 => (((x3 : Int) = 0 → (wK_isOrUnder (fun x6 H4 G5 => (((x6 : Int) = 0 → (wK_canStand_31 Q H4 G5)) ∧ (¬ ((x6 : Int) = 0) → (wK_canStand_27 Q H4 G5)))) (e3_w32 (l2 - 3)) l1 H1 G2)) ∧ (¬ ((x3 : Int) = 0) → (wK_canStand_27 Q H1 G2)))) l1 (e3_w32 (l2 - 3)) H G)))
set_option maxRecDepth 100000 in
set_option maxHeartbeats 4000000 in
theorem sK_canStand_32 (L : Nat) (xs : Nat → Int32) (Q : Int → e3_H → e3_G → Prop) (s0 : Int) (H : e3_H) (G : e3_G) (h : wK_canStand_32 Q s0 H G) : e3_Ev (wB L xs) 1 24 54 32 [(3, 0), (3, 0), (3, 0)] [(0, s0)] H G (e3_q0 Q) := by
  unfold wK_canStand_32 at h
  exact e3_retb (M := tbM54) rfl rfl rfl h.1 ⟨_, rfl, h.2⟩
set_option maxRecDepth 100000 in
set_option maxHeartbeats 4000000 in
theorem sK_canStand_31 (L : Nat) (xs : Nat → Int32) (Q : Int → e3_H → e3_G → Prop)  (H : e3_H) (G : e3_G) (h : wK_canStand_31 Q  H G) : e3_Ev (wB L xs) 1 24 54 31 [(3, 0), (3, 0), (3, 0)] [] H G (e3_q0 Q) := by
  unfold wK_canStand_31 at h
  refine e3_K [0] 32 [(3, 0), (3, 0), (3, 0)] [(0, 0)] (H) (G) (wZ L xs) (M := tbM54) rfl rfl trivial ?_
  exact sK_canStand_32 L xs Q _ _ _ h
set_option maxRecDepth 100000 in
set_option maxHeartbeats 4000000 in
theorem sK_canStand_27 (L : Nat) (xs : Nat → Int32) (Q : Int → e3_H → e3_G → Prop)  (H : e3_H) (G : e3_G) (h : wK_canStand_27 Q  H G) : e3_Ev (wB L xs) 1 24 54 27 [(3, 0), (3, 0), (3, 0)] [] H G (e3_q0 Q) := by
  unfold wK_canStand_27 at h
  refine e3_K [0, 0] 32 [(3, 0), (3, 0), (3, 0)] [(0, 1)] (H) (G) (wZ L xs) (M := tbM54) rfl rfl trivial ?_
  exact sK_canStand_32 L xs Q _ _ _ h
set_option maxRecDepth 100000 in
set_option maxHeartbeats 4000000 in
theorem sK_canStand (L : Nat) (xs : Nat → Int32) (Q : Int → e3_H → e3_G → Prop) (l1 : Int) (l2 : Int) (H : e3_H) (G : e3_G) (h : wK_canStand Q l1 l2 H G) : e3_Ev (wB L xs) 1 24 54 0 [(2, 8), (0, l1), (0, l2)] [] H G (e3_q0 Q) := by
  unfold wK_canStand at h
  refine e3_K [0, 0] 2 [(2, 8), (0, l1), (0, l2)] [(0, 3), (0, l2)] (H) (G) (wZ L xs) (M := tbM54) rfl rfl trivial ?_
  refine e3_br (M := tbM54) rfl rfl rfl Iff.rfl (fun hc => ?_) (fun hc => ?_)
  · replace h := h.1 hc
    refine e3_fgt [false, false, false] ?_
    exact sK_canStand_31 L xs Q _ _ h
  · replace h := h.2 hc
    refine e3_K [0, 0, 0, 0, 0] 10 [(2, 8), (0, l1), (0, l2)] [(0, (e3_w32 (l2 - 3))), (0, l1), (2, 8)] (H) (G) (wZ L xs) (M := tbM54) rfl rfl trivial ?_
    refine e3_call (o := 0) (k := 55) (M2 := tbM55) (f1 := 0) (w1 := 0) (as := [(2, 8), (0, l1), (0, (e3_w32 (l2 - 3)))]) (rest := []) (M := tbM54) rfl rfl rfl trivial (Nat.le_of_ble_eq_true rfl) (Nat.le_of_ble_eq_true rfl) (Nat.le_of_ble_eq_true rfl) ?_
    refine e3_mono (sK_isOrUnder L xs _ _ _ _ _ h) (fun r H1 G2 h => ?_)
    obtain ⟨x3, rfl, h⟩ := h
    change e3_Ev _ _ _ _ 13 [(2, 8), (0, l1), (0, l2)] [(0, x3)] H1 G2 _
    refine e3_br (M := tbM54) rfl rfl rfl Iff.rfl (fun hc => ?_) (fun hc => ?_)
    · replace h := h.1 hc
      refine e3_K [0, 0, 0, 0, 0] 21 [(2, 8), (0, l1), (0, l2)] [(0, l1), (0, (e3_w32 (l2 - 3))), (2, 8)] (H1) (G2) (wZ L xs) (M := tbM54) rfl rfl trivial ?_
      refine e3_call (o := 0) (k := 55) (M2 := tbM55) (f1 := 0) (w1 := 0) (as := [(2, 8), (0, (e3_w32 (l2 - 3))), (0, l1)]) (rest := []) (M := tbM54) rfl rfl rfl trivial (Nat.le_of_ble_eq_true rfl) (Nat.le_of_ble_eq_true rfl) (Nat.le_of_ble_eq_true rfl) ?_
      refine e3_mono (sK_isOrUnder L xs _ _ _ _ _ h) (fun r H4 G5 h => ?_)
      obtain ⟨x6, rfl, h⟩ := h
      change e3_Ev _ _ _ _ 24 [(2, 8), (0, l1), (0, l2)] [(0, x6)] H4 G5 _
      refine e3_br (M := tbM54) rfl rfl rfl Iff.rfl (fun hc => ?_) (fun hc => ?_)
      · replace h := h.1 hc
        refine e3_fgt [false, false, false] ?_
        exact sK_canStand_31 L xs Q _ _ h
      · replace h := h.2 hc
        refine e3_fgt [false, false, false] ?_
        exact sK_canStand_27 L xs Q _ _ h
    · replace h := h.2 hc
      refine e3_fgt [false, false, false] ?_
      exact sK_canStand_27 L xs Q _ _ h
/-- LetterPost$Reader.firstFault(I)I -/
def wR_firstFault_122 (Q : Int → e3_H → e3_G → Prop) (s0 : Int) (H : e3_H) (G : e3_G) : Prop :=
  Q s0 H G
def wR_firstFault_196 (Q : Int → e3_H → e3_G → Prop) (s0 : Int) (H : e3_H) (G : e3_G) : Prop :=
  Q s0 H G
def wR_firstFault_144 (Q : Int → e3_H → e3_G → Prop) (s0 : Int) (H : e3_H) (G : e3_G) : Prop :=
  Q s0 H G
def wR_firstFault_133 (Q : Int → e3_H → e3_G → Prop) (s0 : Int) (H : e3_H) (G : e3_G) : Prop :=
  Q s0 H G
def wR_firstFault_155 (Q : Int → e3_H → e3_G → Prop) (s0 : Int) (H : e3_H) (G : e3_G) : Prop :=
  Q s0 H G
def wR_firstFault (Q : Int → e3_H → e3_G → Prop) (l1 : Int) (H : e3_H) (G : e3_G) : Prop :=
  ((((H 3 7) : Int) = 40 → Q 0 H G) ∧ (((H 3 7) : Int) = 45 → (((l1 : Int) = 0 → (wR_firstFault_122 Q 0 H G)) ∧ (¬ ((l1 : Int) = 0) → (wR_firstFault_122 Q 5 H G)))) ∧ (((H 3 7) : Int) = 95 → Q 0 H G) ∧ (((H 3 7) : Int) = 258 → (e3_ob G 9 (H 14 7)) ∧ (wU_nameFault (fun x3 H1 G2 => Q x3 H1 G2) (H 14 7) (H 3 9) H G)) ∧ (((H 3 7) : Int) = 259 → (wK_find (fun x6 H4 G5 => (((x6 : Int) < 0 → (wR_firstFault_196 Q 4 H4 G5)) ∧ (¬ ((x6 : Int) < 0) → (wK_canStand (fun x9 H7 G8 => (((x9 : Int) = 0 → (wR_firstFault_196 Q 5 H7 G8)) ∧ (¬ ((x9 : Int) = 0) → (wR_firstFault_196 Q 0 H7 G8)))) x6 l1 H4 G5)))) (H 3 9) H G)) ∧ (((H 3 7) : Int) = 260 → (((l1 : Int) = 0 → (wR_firstFault_122 Q 0 H G)) ∧ (¬ ((l1 : Int) = 0) → (wR_firstFault_122 Q 5 H G)))) ∧ (((H 3 7) : Int) = 261 → (((l1 : Int) = 2 → (wR_firstFault_144 Q 0 H G)) ∧ (¬ ((l1 : Int) = 2) → (wR_firstFault_144 Q 5 H G)))) ∧ (((H 3 7) : Int) = 278 → (((l1 : Int) = 1 → (wR_firstFault_133 Q 0 H G)) ∧ (¬ ((l1 : Int) = 1) → (wR_firstFault_133 Q 5 H G)))) ∧ (((H 3 7) : Int) = 279 → (((l1 : Int) = 1 → (wR_firstFault_133 Q 0 H G)) ∧ (¬ ((l1 : Int) = 1) → (wR_firstFault_133 Q 5 H G)))) ∧ (((H 3 7) : Int) = 280 → (((l1 : Int) < 3 → (wR_firstFault_155 Q 5 H G)) ∧ (¬ ((l1 : Int) < 3) → (wR_firstFault_155 Q 0 H G)))) ∧ (¬ ((H 3 7) : Int) = 40 ∧ ¬ ((H 3 7) : Int) = 45 ∧ ¬ ((H 3 7) : Int) = 95 ∧ ¬ ((H 3 7) : Int) = 258 ∧ ¬ ((H 3 7) : Int) = 259 ∧ ¬ ((H 3 7) : Int) = 260 ∧ ¬ ((H 3 7) : Int) = 261 ∧ ¬ ((H 3 7) : Int) = 278 ∧ ¬ ((H 3 7) : Int) = 279 ∧ ¬ ((H 3 7) : Int) = 280 → Q 2 H G))
set_option maxRecDepth 100000 in
set_option maxHeartbeats 4000000 in
theorem sR_firstFault_122 (L : Nat) (xs : Nat → Int32) (Q : Int → e3_H → e3_G → Prop) (s0 : Int) (H : e3_H) (G : e3_G) (h : wR_firstFault_122 Q s0 H G) : e3_Ev (wB L xs) 2 46 50 122 [(3, 0), (3, 0), (3, 0)] [(0, s0)] H G (e3_q0 Q) := by
  unfold wR_firstFault_122 at h
  exact e3_reti (M := tbM50) rfl rfl rfl ⟨_, rfl, h⟩
set_option maxRecDepth 100000 in
set_option maxHeartbeats 4000000 in
theorem sR_firstFault_196 (L : Nat) (xs : Nat → Int32) (Q : Int → e3_H → e3_G → Prop) (s0 : Int) (H : e3_H) (G : e3_G) (h : wR_firstFault_196 Q s0 H G) : e3_Ev (wB L xs) 2 46 50 196 [(3, 0), (3, 0), (3, 0)] [(0, s0)] H G (e3_q0 Q) := by
  unfold wR_firstFault_196 at h
  exact e3_reti (M := tbM50) rfl rfl rfl ⟨_, rfl, h⟩
set_option maxRecDepth 100000 in
set_option maxHeartbeats 4000000 in
theorem sR_firstFault_144 (L : Nat) (xs : Nat → Int32) (Q : Int → e3_H → e3_G → Prop) (s0 : Int) (H : e3_H) (G : e3_G) (h : wR_firstFault_144 Q s0 H G) : e3_Ev (wB L xs) 2 46 50 144 [(3, 0), (3, 0), (3, 0)] [(0, s0)] H G (e3_q0 Q) := by
  unfold wR_firstFault_144 at h
  exact e3_reti (M := tbM50) rfl rfl rfl ⟨_, rfl, h⟩
set_option maxRecDepth 100000 in
set_option maxHeartbeats 4000000 in
theorem sR_firstFault_133 (L : Nat) (xs : Nat → Int32) (Q : Int → e3_H → e3_G → Prop) (s0 : Int) (H : e3_H) (G : e3_G) (h : wR_firstFault_133 Q s0 H G) : e3_Ev (wB L xs) 2 46 50 133 [(3, 0), (3, 0), (3, 0)] [(0, s0)] H G (e3_q0 Q) := by
  unfold wR_firstFault_133 at h
  exact e3_reti (M := tbM50) rfl rfl rfl ⟨_, rfl, h⟩
set_option maxRecDepth 100000 in
set_option maxHeartbeats 4000000 in
theorem sR_firstFault_155 (L : Nat) (xs : Nat → Int32) (Q : Int → e3_H → e3_G → Prop) (s0 : Int) (H : e3_H) (G : e3_G) (h : wR_firstFault_155 Q s0 H G) : e3_Ev (wB L xs) 2 46 50 155 [(3, 0), (3, 0), (3, 0)] [(0, s0)] H G (e3_q0 Q) := by
  unfold wR_firstFault_155 at h
  exact e3_reti (M := tbM50) rfl rfl rfl ⟨_, rfl, h⟩
set_option maxRecDepth 100000 in
set_option maxHeartbeats 4000000 in
theorem sR_firstFault (L : Nat) (xs : Nat → Int32) (Q : Int → e3_H → e3_G → Prop) (l1 : Int) (H : e3_H) (G : e3_G) (h : wR_firstFault Q l1 H G) : e3_Ev (wB L xs) 2 46 50 0 [(2, 14), (0, l1), (3, 0)] [] H G (e3_q0 Q) := by
  unfold wR_firstFault at h
  refine e3_K [0, 4, 2] 7 [(2, 14), (0, l1), (3, 0)] [(0, (H 3 7))] (H) (G) (wZ L xs) (M := tbM50) rfl rfl ⟨trivial, trivial, trivial⟩ ?_
  by_cases hc0 : ((H 3 7) : Int) = 40
  · replace h := h.1 hc0
    refine e3_sw (M := tbM50) rfl rfl hc0 rfl ?_
    refine e3_K [0] 97 [(2, 14), (0, l1), (3, 0)] [(0, 0)] (H) (G) (wZ L xs) (M := tbM50) rfl rfl trivial ?_
    exact e3_reti (M := tbM50) rfl rfl rfl ⟨_, rfl, h⟩
  replace h := h.2
  by_cases hc1 : ((H 3 7) : Int) = 45
  · replace h := h.1 hc1
    refine e3_sw (M := tbM50) rfl rfl hc1 rfl ?_
    refine e3_K [0] 114 [(2, 14), (0, l1), (3, 0)] [(0, l1)] (H) (G) (wZ L xs) (M := tbM50) rfl rfl trivial ?_
    refine e3_br (M := tbM50) rfl rfl rfl Iff.rfl (fun hc => ?_) (fun hc => ?_)
    · replace h := h.1 hc
      refine e3_K [0, 0] 122 [(2, 14), (0, l1), (3, 0)] [(0, 0)] (H) (G) (wZ L xs) (M := tbM50) rfl rfl trivial ?_
      refine e3_fgt [false, false, false] ?_
      exact sR_firstFault_122 L xs Q _ _ _ h
    · replace h := h.2 hc
      refine e3_K [0] 122 [(2, 14), (0, l1), (3, 0)] [(0, 5)] (H) (G) (wZ L xs) (M := tbM50) rfl rfl trivial ?_
      refine e3_fgt [false, false, false] ?_
      exact sR_firstFault_122 L xs Q _ _ _ h
  replace h := h.2
  by_cases hc2 : ((H 3 7) : Int) = 95
  · replace h := h.1 hc2
    refine e3_sw (M := tbM50) rfl rfl hc2 rfl ?_
    refine e3_K [0] 97 [(2, 14), (0, l1), (3, 0)] [(0, 0)] (H) (G) (wZ L xs) (M := tbM50) rfl rfl trivial ?_
    exact e3_reti (M := tbM50) rfl rfl rfl ⟨_, rfl, h⟩
  replace h := h.2
  by_cases hc3 : ((H 3 7) : Int) = 258
  · replace h := h.1 hc3
    refine e3_sw (M := tbM50) rfl rfl hc3 rfl ?_
    refine e3_K [0, 2, 0, 4, 2] 109 [(2, 14), (0, l1), (3, 0)] [(1, (H 3 9)), (2, (H 14 7))] (H) (G) (wZ L xs) (M := tbM50) rfl rfl ⟨trivial, trivial, trivial, trivial⟩ ?_
    obtain ⟨oz, h⟩ := h
    refine e3_call (o := 1) (k := 51) (M2 := tbM51) (f1 := 1) (w1 := 23) (as := [(2, (H 14 7)), (1, (H 3 9))]) (rest := []) (M := tbM50) rfl rfl rfl oz (Nat.le_of_ble_eq_true rfl) (Nat.le_of_ble_eq_true rfl) (Nat.le_of_ble_eq_true rfl) ?_
    refine e3_mono (sU_nameFault L xs _ _ _ _ _ h) (fun r H1 G2 h => ?_)
    obtain ⟨x3, rfl, h⟩ := h
    change e3_Ev _ _ _ _ 112 [(2, 14), (0, l1), (3, 0)] [(0, x3)] H1 G2 _
    exact e3_reti (M := tbM50) rfl rfl rfl ⟨_, rfl, h⟩
  replace h := h.2
  by_cases hc4 : ((H 3 7) : Int) = 259
  · replace h := h.1 hc4
    refine e3_sw (M := tbM50) rfl rfl hc4 rfl ?_
    refine e3_K [0, 4, 0, 4, 2] 167 [(2, 14), (0, l1), (3, 0)] [(1, (H 3 9)), (2, 8)] (H) (G) (wZ L xs) (M := tbM50) rfl rfl ⟨trivial, trivial, trivial, trivial⟩ ?_
    refine e3_call (o := 0) (k := 28) (M2 := tbM28) (f1 := 0) (w1 := 0) (as := [(2, 8), (1, (H 3 9))]) (rest := []) (M := tbM50) rfl rfl rfl trivial (Nat.le_of_ble_eq_true rfl) (Nat.le_of_ble_eq_true rfl) (Nat.le_of_ble_eq_true rfl) ?_
    refine e3_mono (sK_find L xs _ _ _ _ h) (fun r H4 G5 h => ?_)
    obtain ⟨x6, rfl, h⟩ := h
    change e3_Ev _ _ _ _ 170 [(2, 14), (0, l1), (3, 0)] [(0, x6)] H4 G5 _
    refine e3_K [0, 0] 172 [(2, 14), (0, l1), (0, x6)] [(0, x6)] (H4) (G5) (wZ L xs) (M := tbM50) rfl rfl trivial ?_
    refine e3_br (M := tbM50) rfl rfl rfl Iff.rfl (fun hc => ?_) (fun hc => ?_)
    · replace h := h.1 hc
      refine e3_K [0, 0] 196 [(2, 14), (0, l1), (0, x6)] [(0, 4)] (H4) (G5) (wZ L xs) (M := tbM50) rfl rfl trivial ?_
      refine e3_fgt [false, false, false] ?_
      exact sR_firstFault_196 L xs Q _ _ _ h
    · replace h := h.2 hc
      refine e3_K [0, 4, 0, 0] 185 [(2, 14), (0, l1), (0, x6)] [(0, l1), (0, x6), (2, 8)] (H4) (G5) (wZ L xs) (M := tbM50) rfl rfl ⟨trivial, trivial⟩ ?_
      refine e3_call (o := 0) (k := 54) (M2 := tbM54) (f1 := 1) (w1 := 24) (as := [(2, 8), (0, x6), (0, l1)]) (rest := []) (M := tbM50) rfl rfl rfl trivial (Nat.le_of_ble_eq_true rfl) (Nat.le_of_ble_eq_true rfl) (Nat.le_of_ble_eq_true rfl) ?_
      refine e3_mono (sK_canStand L xs _ _ _ _ _ h) (fun r H7 G8 h => ?_)
      obtain ⟨x9, rfl, h⟩ := h
      change e3_Ev _ _ _ _ 188 [(2, 14), (0, l1), (0, x6)] [(0, x9)] H7 G8 _
      refine e3_br (M := tbM50) rfl rfl rfl Iff.rfl (fun hc => ?_) (fun hc => ?_)
      · replace h := h.1 hc
        refine e3_K [0] 196 [(2, 14), (0, l1), (0, x6)] [(0, 5)] (H7) (G8) (wZ L xs) (M := tbM50) rfl rfl trivial ?_
        refine e3_fgt [false, false, false] ?_
        exact sR_firstFault_196 L xs Q _ _ _ h
      · replace h := h.2 hc
        refine e3_K [0, 0] 196 [(2, 14), (0, l1), (0, x6)] [(0, 0)] (H7) (G8) (wZ L xs) (M := tbM50) rfl rfl trivial ?_
        refine e3_fgt [false, false, false] ?_
        exact sR_firstFault_196 L xs Q _ _ _ h
  replace h := h.2
  by_cases hc5 : ((H 3 7) : Int) = 260
  · replace h := h.1 hc5
    refine e3_sw (M := tbM50) rfl rfl hc5 rfl ?_
    refine e3_K [0] 114 [(2, 14), (0, l1), (3, 0)] [(0, l1)] (H) (G) (wZ L xs) (M := tbM50) rfl rfl trivial ?_
    refine e3_br (M := tbM50) rfl rfl rfl Iff.rfl (fun hc => ?_) (fun hc => ?_)
    · replace h := h.1 hc
      refine e3_K [0, 0] 122 [(2, 14), (0, l1), (3, 0)] [(0, 0)] (H) (G) (wZ L xs) (M := tbM50) rfl rfl trivial ?_
      refine e3_fgt [false, false, false] ?_
      exact sR_firstFault_122 L xs Q _ _ _ h
    · replace h := h.2 hc
      refine e3_K [0] 122 [(2, 14), (0, l1), (3, 0)] [(0, 5)] (H) (G) (wZ L xs) (M := tbM50) rfl rfl trivial ?_
      refine e3_fgt [false, false, false] ?_
      exact sR_firstFault_122 L xs Q _ _ _ h
  replace h := h.2
  by_cases hc6 : ((H 3 7) : Int) = 261
  · replace h := h.1 hc6
    refine e3_sw (M := tbM50) rfl rfl hc6 rfl ?_
    refine e3_K [0, 0] 136 [(2, 14), (0, l1), (3, 0)] [(0, 2), (0, l1)] (H) (G) (wZ L xs) (M := tbM50) rfl rfl trivial ?_
    refine e3_br (M := tbM50) rfl rfl rfl Iff.rfl (fun hc => ?_) (fun hc => ?_)
    · replace h := h.1 hc
      refine e3_K [0, 0] 144 [(2, 14), (0, l1), (3, 0)] [(0, 0)] (H) (G) (wZ L xs) (M := tbM50) rfl rfl trivial ?_
      refine e3_fgt [false, false, false] ?_
      exact sR_firstFault_144 L xs Q _ _ _ h
    · replace h := h.2 hc
      refine e3_K [0] 144 [(2, 14), (0, l1), (3, 0)] [(0, 5)] (H) (G) (wZ L xs) (M := tbM50) rfl rfl trivial ?_
      refine e3_fgt [false, false, false] ?_
      exact sR_firstFault_144 L xs Q _ _ _ h
  replace h := h.2
  by_cases hc7 : ((H 3 7) : Int) = 278
  · replace h := h.1 hc7
    refine e3_sw (M := tbM50) rfl rfl hc7 rfl ?_
    refine e3_K [0, 0] 125 [(2, 14), (0, l1), (3, 0)] [(0, 1), (0, l1)] (H) (G) (wZ L xs) (M := tbM50) rfl rfl trivial ?_
    refine e3_br (M := tbM50) rfl rfl rfl Iff.rfl (fun hc => ?_) (fun hc => ?_)
    · replace h := h.1 hc
      refine e3_K [0, 0] 133 [(2, 14), (0, l1), (3, 0)] [(0, 0)] (H) (G) (wZ L xs) (M := tbM50) rfl rfl trivial ?_
      refine e3_fgt [false, false, false] ?_
      exact sR_firstFault_133 L xs Q _ _ _ h
    · replace h := h.2 hc
      refine e3_K [0] 133 [(2, 14), (0, l1), (3, 0)] [(0, 5)] (H) (G) (wZ L xs) (M := tbM50) rfl rfl trivial ?_
      refine e3_fgt [false, false, false] ?_
      exact sR_firstFault_133 L xs Q _ _ _ h
  replace h := h.2
  by_cases hc8 : ((H 3 7) : Int) = 279
  · replace h := h.1 hc8
    refine e3_sw (M := tbM50) rfl rfl hc8 rfl ?_
    refine e3_K [0, 0] 125 [(2, 14), (0, l1), (3, 0)] [(0, 1), (0, l1)] (H) (G) (wZ L xs) (M := tbM50) rfl rfl trivial ?_
    refine e3_br (M := tbM50) rfl rfl rfl Iff.rfl (fun hc => ?_) (fun hc => ?_)
    · replace h := h.1 hc
      refine e3_K [0, 0] 133 [(2, 14), (0, l1), (3, 0)] [(0, 0)] (H) (G) (wZ L xs) (M := tbM50) rfl rfl trivial ?_
      refine e3_fgt [false, false, false] ?_
      exact sR_firstFault_133 L xs Q _ _ _ h
    · replace h := h.2 hc
      refine e3_K [0] 133 [(2, 14), (0, l1), (3, 0)] [(0, 5)] (H) (G) (wZ L xs) (M := tbM50) rfl rfl trivial ?_
      refine e3_fgt [false, false, false] ?_
      exact sR_firstFault_133 L xs Q _ _ _ h
  replace h := h.2
  by_cases hc9 : ((H 3 7) : Int) = 280
  · replace h := h.1 hc9
    refine e3_sw (M := tbM50) rfl rfl hc9 rfl ?_
    refine e3_K [0, 0] 147 [(2, 14), (0, l1), (3, 0)] [(0, 3), (0, l1)] (H) (G) (wZ L xs) (M := tbM50) rfl rfl trivial ?_
    refine e3_br (M := tbM50) rfl rfl rfl Iff.rfl (fun hc => ?_) (fun hc => ?_)
    · replace h := h.1 hc
      refine e3_K [0] 155 [(2, 14), (0, l1), (3, 0)] [(0, 5)] (H) (G) (wZ L xs) (M := tbM50) rfl rfl trivial ?_
      refine e3_fgt [false, false, false] ?_
      exact sR_firstFault_155 L xs Q _ _ _ h
    · replace h := h.2 hc
      refine e3_K [0, 0] 155 [(2, 14), (0, l1), (3, 0)] [(0, 0)] (H) (G) (wZ L xs) (M := tbM50) rfl rfl trivial ?_
      refine e3_fgt [false, false, false] ?_
      exact sR_firstFault_155 L xs Q _ _ _ h
  replace h := h.2
  replace h := h ⟨hc0, hc1, hc2, hc3, hc4, hc5, hc6, hc7, hc8, hc9⟩
  refine e3_sw (M := tbM50) rfl rfl rfl ((e3_swdl rfl (fun q hq => (by
      have hq : q ∈ ([(40, 89), (45, 106), (95, 89), (258, 91), (259, 149), (260, 106), (261, 127), (278, 116), (279, 116), (280, 138)] : List (Int × Int)) := hq
      simp only [List.mem_cons, List.not_mem_nil, or_false] at hq
      rcases hq with rfl | rfl | rfl | rfl | rfl | rfl | rfl | rfl | rfl | rfl
      all_goals (intro hz; simp only at hz; omega)))).trans rfl) ?_
  refine e3_K [0] 198 [(2, 14), (0, l1), (3, 0)] [(0, 2)] (H) (G) (wZ L xs) (M := tbM50) rfl rfl trivial ?_
  exact e3_reti (M := tbM50) rfl rfl rfl ⟨_, rfl, h⟩
/-- LetterPost$Tokens.typeBehind(I)I -/
def wT_typeBehind (Q : Int → e3_H → e3_G → Prop) (l1 : Int) (H : e3_H) (G : e3_G) : Prop :=
  (wJ_min_II (fun x3 H1 G2 => ((0 : Int) ≤ x3 ∧ (x3 : Int) < 1601) ∧ Q (H1 5 x3) H1 G2) (e3_w32 ((H 3 6) + l1)) (e3_w32 ((H 3 5) - 1)) H G)
set_option maxRecDepth 100000 in
set_option maxHeartbeats 4000000 in
theorem sT_typeBehind (L : Nat) (xs : Nat → Int32) (Q : Int → e3_H → e3_G → Prop) (l1 : Int) (H : e3_H) (G : e3_G) (h : wT_typeBehind Q l1 H G) : e3_Ev (wB L xs) 1 21 57 0 [(2, 3), (0, l1)] [] H G (e3_q0 Q) := by
  unfold wT_typeBehind at h
  refine e3_K [0, 4, 0, 2, 0, 0, 0, 2, 0, 0] 16 [(2, 3), (0, l1)] [(0, (e3_w32 ((H 3 5) - 1))), (0, (e3_w32 ((H 3 6) + l1))), (2, 5)] (H) (G) (wZ L xs) (M := tbM57) rfl rfl ⟨trivial, trivial, trivial, trivial⟩ ?_
  refine e3_call (o := 0) (k := 303) (M2 := tbM303) (f1 := 0) (w1 := 0) (as := [(0, (e3_w32 ((H 3 6) + l1))), (0, (e3_w32 ((H 3 5) - 1)))]) (rest := [(2, 5)]) (M := tbM57) rfl rfl rfl trivial (Nat.le_of_ble_eq_true rfl) (Nat.le_of_ble_eq_true rfl) (Nat.le_of_ble_eq_true rfl) ?_
  refine e3_mono (sJ_min_II L xs _ _ _ _ _ h) (fun r H1 G2 h => ?_)
  obtain ⟨x3, rfl, h⟩ := h
  change e3_Ev _ _ _ _ 19 [(2, 3), (0, l1)] [(0, x3), (2, 5)] H1 G2 _
  obtain ⟨o4, h⟩ := h
  refine e3_K [2] 20 [(2, 3), (0, l1)] [(0, (H1 5 x3))] (H1) (G2) (wZ L xs) (M := tbM57) rfl rfl ⟨o4, trivial⟩ ?_
  exact e3_reti (M := tbM57) rfl rfl rfl ⟨_, rfl, h⟩
/-- LetterPost$Tokens.worthBehind(I)J -/
def wT_worthBehind (Q : Int → e3_H → e3_G → Prop) (l1 : Int) (H : e3_H) (G : e3_G) : Prop :=
  (wJ_min_II (fun x3 H1 G2 => ((0 : Int) ≤ x3 ∧ (x3 : Int) < 1601) ∧ Q (H1 7 x3) H1 G2) (e3_w32 ((H 3 6) + l1)) (e3_w32 ((H 3 5) - 1)) H G)
set_option maxRecDepth 100000 in
set_option maxHeartbeats 4000000 in
theorem sT_worthBehind (L : Nat) (xs : Nat → Int32) (Q : Int → e3_H → e3_G → Prop) (l1 : Int) (H : e3_H) (G : e3_G) (h : wT_worthBehind Q l1 H G) : e3_Ev (wB L xs) 1 21 58 0 [(2, 3), (0, l1)] [] H G (e3_q1 Q) := by
  unfold wT_worthBehind at h
  refine e3_K [0, 4, 0, 2, 0, 0, 0, 2, 0, 0] 16 [(2, 3), (0, l1)] [(0, (e3_w32 ((H 3 5) - 1))), (0, (e3_w32 ((H 3 6) + l1))), (2, 7)] (H) (G) (wZ L xs) (M := tbM58) rfl rfl ⟨trivial, trivial, trivial, trivial⟩ ?_
  refine e3_call (o := 0) (k := 303) (M2 := tbM303) (f1 := 0) (w1 := 0) (as := [(0, (e3_w32 ((H 3 6) + l1))), (0, (e3_w32 ((H 3 5) - 1)))]) (rest := [(2, 7)]) (M := tbM58) rfl rfl rfl trivial (Nat.le_of_ble_eq_true rfl) (Nat.le_of_ble_eq_true rfl) (Nat.le_of_ble_eq_true rfl) ?_
  refine e3_mono (sJ_min_II L xs _ _ _ _ _ h) (fun r H1 G2 h => ?_)
  obtain ⟨x3, rfl, h⟩ := h
  change e3_Ev _ _ _ _ 19 [(2, 3), (0, l1)] [(0, x3), (2, 7)] H1 G2 _
  obtain ⟨o4, h⟩ := h
  refine e3_K [2] 20 [(2, 3), (0, l1)] [(1, (H1 7 x3))] (H1) (G2) (wZ L xs) (M := tbM58) rfl rfl ⟨o4, trivial⟩ ?_
  exact e3_retl (M := tbM58) rfl rfl rfl ⟨_, rfl, h⟩
/-- LetterPost$Reader.isTurnedRange()Z -/
def wR_isTurnedRange_99 (Q : Int → e3_H → e3_G → Prop)  (H : e3_H) (G : e3_G) : Prop :=
  Q 0 H G
def wR_isTurnedRange_152 (Q : Int → e3_H → e3_G → Prop) (s0 : Int) (H : e3_H) (G : e3_G) : Prop :=
  ((s0 : Int) = 0 ∨ s0 = 1) ∧ Q s0 H G
def wR_isTurnedRange_76 (Q : Int → e3_H → e3_G → Prop) (l1 : Int) (l2 : Int) (l3 : Int) (s0 : Int) (H : e3_H) (G : e3_G) : Prop :=
  (((l2 : Int) = 0 → (wR_isTurnedRange_99 Q H G)) ∧ (¬ ((l2 : Int) = 0) → (wT_typeBehind (fun x3 H1 G2 => (((x3 : Int) = 260 → (wT_worthBehind (fun x6 H4 G5 => (wT_worthBehind (fun x9 H7 G8 => ((((e3_w64 (x9 * (e3_w32 (1 - (e3_w32 (2 * s0)))))) : Int) < (e3_w64 (x6 * (e3_w32 (1 - (e3_w32 (2 * l1)))))) → (wR_isTurnedRange_152 Q 1 H7 G8)) ∧ (¬ (((e3_w64 (x9 * (e3_w32 (1 - (e3_w32 (2 * s0)))))) : Int) < (e3_w64 (x6 * (e3_w32 (1 - (e3_w32 (2 * l1))))))) → (wR_isTurnedRange_152 Q 0 H7 G8)))) (e3_w32 (l3 + s0)) H4 G5)) l1 H1 G2)) ∧ (¬ ((x3 : Int) = 260) → (wR_isTurnedRange_99 Q H1 G2)))) (e3_w32 (l3 + s0)) H G)))
def wR_isTurnedRange_53 (Q : Int → e3_H → e3_G → Prop) (l1 : Int) (s0 : Int) (H : e3_H) (G : e3_G) : Prop :=
  (wT_typeBehind (fun x3 H1 G2 => (((x3 : Int) = 45 → (wR_isTurnedRange_76 Q l1 s0 (e3_w32 (l1 + 2)) 1 H1 G2)) ∧ (¬ ((x3 : Int) = 45) → (wR_isTurnedRange_76 Q l1 s0 (e3_w32 (l1 + 2)) 0 H1 G2)))) (e3_w32 (l1 + 2)) H G)
def wR_isTurnedRange_52 (Q : Int → e3_H → e3_G → Prop) (l1 : Int) (H : e3_H) (G : e3_G) : Prop :=
  (wR_isTurnedRange_53 Q l1 0 H G)
def wR_isTurnedRange_17 (Q : Int → e3_H → e3_G → Prop) (s0 : Int) (H : e3_H) (G : e3_G) : Prop :=
  (wT_typeBehind (fun x3 H1 G2 => (((x3 : Int) = 260 → (wT_typeBehind (fun x6 H4 G5 => (((x6 : Int) = 262 → (wR_isTurnedRange_53 Q s0 1 H4 G5)) ∧ (¬ ((x6 : Int) = 262) → (wR_isTurnedRange_52 Q s0 H4 G5)))) (e3_w32 (s0 + 1)) H1 G2)) ∧ (¬ ((x3 : Int) = 260) → (wR_isTurnedRange_52 Q s0 H1 G2)))) s0 H G)
def wR_isTurnedRange (Q : Int → e3_H → e3_G → Prop)  (H : e3_H) (G : e3_G) : Prop :=
  ((((H 3 7) : Int) = 45 → (wR_isTurnedRange_17 Q 1 H G)) ∧ (¬ (((H 3 7) : Int) = 45) → (wR_isTurnedRange_17 Q 0 H G)))
set_option maxRecDepth 100000 in
set_option maxHeartbeats 4000000 in
theorem sR_isTurnedRange_99 (L : Nat) (xs : Nat → Int32) (Q : Int → e3_H → e3_G → Prop)  (H : e3_H) (G : e3_G) (h : wR_isTurnedRange_99 Q  H G) : e3_Ev (wB L xs) 2 42 56 99 [(3, 0), (3, 0), (3, 0), (3, 0), (3, 0), (3, 0), (3, 0), (3, 0), (3, 0)] [] H G (e3_q0 Q) := by
  unfold wR_isTurnedRange_99 at h
  refine e3_K [0] 100 [(3, 0), (3, 0), (3, 0), (3, 0), (3, 0), (3, 0), (3, 0), (3, 0), (3, 0)] [(0, 0)] (H) (G) (wZ L xs) (M := tbM56) rfl rfl trivial ?_
  exact e3_retb (M := tbM56) rfl rfl rfl (Or.inl rfl) ⟨_, rfl, h⟩
set_option maxRecDepth 100000 in
set_option maxHeartbeats 4000000 in
theorem sR_isTurnedRange_152 (L : Nat) (xs : Nat → Int32) (Q : Int → e3_H → e3_G → Prop) (s0 : Int) (H : e3_H) (G : e3_G) (h : wR_isTurnedRange_152 Q s0 H G) : e3_Ev (wB L xs) 2 42 56 152 [(3, 0), (3, 0), (3, 0), (3, 0), (3, 0), (3, 0), (3, 0), (3, 0), (3, 0)] [(0, s0)] H G (e3_q0 Q) := by
  unfold wR_isTurnedRange_152 at h
  exact e3_retb (M := tbM56) rfl rfl rfl h.1 ⟨_, rfl, h.2⟩
set_option maxRecDepth 100000 in
set_option maxHeartbeats 4000000 in
theorem sR_isTurnedRange_76 (L : Nat) (xs : Nat → Int32) (Q : Int → e3_H → e3_G → Prop) (l1 : Int) (l2 : Int) (l3 : Int) (s0 : Int) (H : e3_H) (G : e3_G) (h : wR_isTurnedRange_76 Q l1 l2 l3 s0 H G) : e3_Ev (wB L xs) 2 42 56 76 [(2, 14), (0, l1), (0, l2), (0, l3), (3, 0), (3, 0), (3, 0), (3, 0), (3, 0)] [(0, s0)] H G (e3_q0 Q) := by
  unfold wR_isTurnedRange_76 at h
  refine e3_K [0, 0] 79 [(2, 14), (0, l1), (0, l2), (0, l3), (0, s0), (3, 0), (3, 0), (3, 0), (3, 0)] [(0, l2)] (H) (G) (wZ L xs) (M := tbM56) rfl rfl trivial ?_
  refine e3_br (M := tbM56) rfl rfl rfl Iff.rfl (fun hc => ?_) (fun hc => ?_)
  · replace h := h.1 hc
    refine e3_fgt [false, false, false, false, false, false, false, false, false] ?_
    exact sR_isTurnedRange_99 L xs Q _ _ h
  · replace h := h.2 hc
    refine e3_K [0, 4, 0, 0, 0] 90 [(2, 14), (0, l1), (0, l2), (0, l3), (0, s0), (3, 0), (3, 0), (3, 0), (3, 0)] [(0, (e3_w32 (l3 + s0))), (2, 3)] (H) (G) (wZ L xs) (M := tbM56) rfl rfl ⟨trivial, trivial⟩ ?_
    refine e3_call (o := 0) (k := 57) (M2 := tbM57) (f1 := 1) (w1 := 21) (as := [(2, 3), (0, (e3_w32 (l3 + s0)))]) (rest := []) (M := tbM56) rfl rfl rfl trivial (Nat.le_of_ble_eq_true rfl) (Nat.le_of_ble_eq_true rfl) (Nat.le_of_ble_eq_true rfl) ?_
    refine e3_mono (sT_typeBehind L xs _ _ _ _ h) (fun r H1 G2 h => ?_)
    obtain ⟨x3, rfl, h⟩ := h
    change e3_Ev _ _ _ _ 93 [(2, 14), (0, l1), (0, l2), (0, l3), (0, s0), (3, 0), (3, 0), (3, 0), (3, 0)] [(0, x3)] H1 G2 _
    refine e3_K [0] 96 [(2, 14), (0, l1), (0, l2), (0, l3), (0, s0), (3, 0), (3, 0), (3, 0), (3, 0)] [(0, 260), (0, x3)] (H1) (G2) (wZ L xs) (M := tbM56) rfl rfl trivial ?_
    refine e3_br (M := tbM56) rfl rfl rfl Iff.rfl (fun hc => ?_) (fun hc => ?_)
    · replace h := h.1 hc
      refine e3_K [0, 4, 0] 106 [(2, 14), (0, l1), (0, l2), (0, l3), (0, s0), (3, 0), (3, 0), (3, 0), (3, 0)] [(0, l1), (2, 3)] (H1) (G2) (wZ L xs) (M := tbM56) rfl rfl ⟨trivial, trivial⟩ ?_
      refine e3_call (o := 0) (k := 58) (M2 := tbM58) (f1 := 1) (w1 := 21) (as := [(2, 3), (0, l1)]) (rest := []) (M := tbM56) rfl rfl rfl trivial (Nat.le_of_ble_eq_true rfl) (Nat.le_of_ble_eq_true rfl) (Nat.le_of_ble_eq_true rfl) ?_
      refine e3_mono (sT_worthBehind L xs _ _ _ _ h) (fun r H4 G5 h => ?_)
      obtain ⟨x6, rfl, h⟩ := h
      change e3_Ev _ _ _ _ 109 [(2, 14), (0, l1), (0, l2), (0, l3), (0, s0), (3, 0), (3, 0), (3, 0), (3, 0)] [(1, x6)] H4 G5 _
      refine e3_K [0, 0, 0, 0, 0, 0, 0, 0, 0, 4, 0, 0, 0] 126 [(2, 14), (0, l1), (0, l2), (0, l3), (0, s0), (1, (e3_w64 (x6 * (e3_w32 (1 - (e3_w32 (2 * l1))))))), (3, 0), (3, 0), (3, 0)] [(0, (e3_w32 (l3 + s0))), (2, 3)] (H4) (G5) (wZ L xs) (M := tbM56) rfl rfl ⟨trivial, trivial⟩ ?_
      refine e3_call (o := 0) (k := 58) (M2 := tbM58) (f1 := 1) (w1 := 21) (as := [(2, 3), (0, (e3_w32 (l3 + s0)))]) (rest := []) (M := tbM56) rfl rfl rfl trivial (Nat.le_of_ble_eq_true rfl) (Nat.le_of_ble_eq_true rfl) (Nat.le_of_ble_eq_true rfl) ?_
      refine e3_mono (sT_worthBehind L xs _ _ _ _ h) (fun r H7 G8 h => ?_)
      obtain ⟨x9, rfl, h⟩ := h
      change e3_Ev _ _ _ _ 129 [(2, 14), (0, l1), (0, l2), (0, l3), (0, s0), (1, (e3_w64 (x6 * (e3_w32 (1 - (e3_w32 (2 * l1))))))), (3, 0), (3, 0), (3, 0)] [(1, x9)] H7 G8 _
      refine e3_K [0, 0, 0, 0, 0, 0, 0, 0, 0, 0, 0] 144 [(2, 14), (0, l1), (0, l2), (0, l3), (0, s0), (1, (e3_w64 (x6 * (e3_w32 (1 - (e3_w32 (2 * l1))))))), (3, 0), (1, (e3_w64 (x9 * (e3_w32 (1 - (e3_w32 (2 * s0))))))), (3, 0)] [(0, (e3_cmp (e3_w64 (x6 * (e3_w32 (1 - (e3_w32 (2 * l1)))))) (e3_w64 (x9 * (e3_w32 (1 - (e3_w32 (2 * s0))))))))] (H7) (G8) (wZ L xs) (M := tbM56) rfl rfl trivial ?_
      refine e3_br (M := tbM56) rfl rfl rfl e3_cmp_gt (fun hc => ?_) (fun hc => ?_)
      · replace h := h.1 hc
        refine e3_K [0, 0] 152 [(2, 14), (0, l1), (0, l2), (0, l3), (0, s0), (1, (e3_w64 (x6 * (e3_w32 (1 - (e3_w32 (2 * l1))))))), (3, 0), (1, (e3_w64 (x9 * (e3_w32 (1 - (e3_w32 (2 * s0))))))), (3, 0)] [(0, 1)] (H7) (G8) (wZ L xs) (M := tbM56) rfl rfl trivial ?_
        refine e3_fgt [false, false, false, false, false, false, false, false, false] ?_
        exact sR_isTurnedRange_152 L xs Q _ _ _ h
      · replace h := h.2 hc
        refine e3_K [0] 152 [(2, 14), (0, l1), (0, l2), (0, l3), (0, s0), (1, (e3_w64 (x6 * (e3_w32 (1 - (e3_w32 (2 * l1))))))), (3, 0), (1, (e3_w64 (x9 * (e3_w32 (1 - (e3_w32 (2 * s0))))))), (3, 0)] [(0, 0)] (H7) (G8) (wZ L xs) (M := tbM56) rfl rfl trivial ?_
        refine e3_fgt [false, false, false, false, false, false, false, false, false] ?_
        exact sR_isTurnedRange_152 L xs Q _ _ _ h
    · replace h := h.2 hc
      refine e3_fgt [false, false, false, false, false, false, false, false, false] ?_
      exact sR_isTurnedRange_99 L xs Q _ _ h
set_option maxRecDepth 100000 in
set_option maxHeartbeats 4000000 in
theorem sR_isTurnedRange_53 (L : Nat) (xs : Nat → Int32) (Q : Int → e3_H → e3_G → Prop) (l1 : Int) (s0 : Int) (H : e3_H) (G : e3_G) (h : wR_isTurnedRange_53 Q l1 s0 H G) : e3_Ev (wB L xs) 2 42 56 53 [(2, 14), (0, l1), (3, 0), (3, 0), (3, 0), (3, 0), (3, 0), (3, 0), (3, 0)] [(0, s0)] H G (e3_q0 Q) := by
  unfold wR_isTurnedRange_53 at h
  refine e3_K [0, 0, 0, 0, 0, 0, 4, 0] 63 [(2, 14), (0, l1), (0, s0), (0, (e3_w32 (l1 + 2))), (3, 0), (3, 0), (3, 0), (3, 0), (3, 0)] [(0, (e3_w32 (l1 + 2))), (2, 3)] (H) (G) (wZ L xs) (M := tbM56) rfl rfl ⟨trivial, trivial⟩ ?_
  refine e3_call (o := 0) (k := 57) (M2 := tbM57) (f1 := 1) (w1 := 21) (as := [(2, 3), (0, (e3_w32 (l1 + 2)))]) (rest := []) (M := tbM56) rfl rfl rfl trivial (Nat.le_of_ble_eq_true rfl) (Nat.le_of_ble_eq_true rfl) (Nat.le_of_ble_eq_true rfl) ?_
  refine e3_mono (sT_typeBehind L xs _ _ _ _ h) (fun r H1 G2 h => ?_)
  obtain ⟨x3, rfl, h⟩ := h
  change e3_Ev _ _ _ _ 66 [(2, 14), (0, l1), (0, s0), (0, (e3_w32 (l1 + 2))), (3, 0), (3, 0), (3, 0), (3, 0), (3, 0)] [(0, x3)] H1 G2 _
  refine e3_K [0] 68 [(2, 14), (0, l1), (0, s0), (0, (e3_w32 (l1 + 2))), (3, 0), (3, 0), (3, 0), (3, 0), (3, 0)] [(0, 45), (0, x3)] (H1) (G2) (wZ L xs) (M := tbM56) rfl rfl trivial ?_
  refine e3_br (M := tbM56) rfl rfl rfl Iff.rfl (fun hc => ?_) (fun hc => ?_)
  · replace h := h.1 hc
    refine e3_K [0, 0] 76 [(2, 14), (0, l1), (0, s0), (0, (e3_w32 (l1 + 2))), (3, 0), (3, 0), (3, 0), (3, 0), (3, 0)] [(0, 1)] (H1) (G2) (wZ L xs) (M := tbM56) rfl rfl trivial ?_
    exact sR_isTurnedRange_76 L xs Q _ _ _ _ _ _ h
  · replace h := h.2 hc
    refine e3_K [0] 76 [(2, 14), (0, l1), (0, s0), (0, (e3_w32 (l1 + 2))), (3, 0), (3, 0), (3, 0), (3, 0), (3, 0)] [(0, 0)] (H1) (G2) (wZ L xs) (M := tbM56) rfl rfl trivial ?_
    exact sR_isTurnedRange_76 L xs Q _ _ _ _ _ _ h
set_option maxRecDepth 100000 in
set_option maxHeartbeats 4000000 in
theorem sR_isTurnedRange_52 (L : Nat) (xs : Nat → Int32) (Q : Int → e3_H → e3_G → Prop) (l1 : Int) (H : e3_H) (G : e3_G) (h : wR_isTurnedRange_52 Q l1 H G) : e3_Ev (wB L xs) 2 42 56 52 [(2, 14), (0, l1), (3, 0), (3, 0), (3, 0), (3, 0), (3, 0), (3, 0), (3, 0)] [] H G (e3_q0 Q) := by
  unfold wR_isTurnedRange_52 at h
  refine e3_K [0] 53 [(2, 14), (0, l1), (3, 0), (3, 0), (3, 0), (3, 0), (3, 0), (3, 0), (3, 0)] [(0, 0)] (H) (G) (wZ L xs) (M := tbM56) rfl rfl trivial ?_
  exact sR_isTurnedRange_53 L xs Q _ _ _ _ h
set_option maxRecDepth 100000 in
set_option maxHeartbeats 4000000 in
theorem sR_isTurnedRange_17 (L : Nat) (xs : Nat → Int32) (Q : Int → e3_H → e3_G → Prop) (s0 : Int) (H : e3_H) (G : e3_G) (h : wR_isTurnedRange_17 Q s0 H G) : e3_Ev (wB L xs) 2 42 56 17 [(2, 14), (3, 0), (3, 0), (3, 0), (3, 0), (3, 0), (3, 0), (3, 0), (3, 0)] [(0, s0)] H G (e3_q0 Q) := by
  unfold wR_isTurnedRange_17 at h
  refine e3_K [0, 0, 4, 0] 23 [(2, 14), (0, s0), (3, 0), (3, 0), (3, 0), (3, 0), (3, 0), (3, 0), (3, 0)] [(0, s0), (2, 3)] (H) (G) (wZ L xs) (M := tbM56) rfl rfl ⟨trivial, trivial⟩ ?_
  refine e3_call (o := 0) (k := 57) (M2 := tbM57) (f1 := 1) (w1 := 21) (as := [(2, 3), (0, s0)]) (rest := []) (M := tbM56) rfl rfl rfl trivial (Nat.le_of_ble_eq_true rfl) (Nat.le_of_ble_eq_true rfl) (Nat.le_of_ble_eq_true rfl) ?_
  refine e3_mono (sT_typeBehind L xs _ _ _ _ h) (fun r H1 G2 h => ?_)
  obtain ⟨x3, rfl, h⟩ := h
  change e3_Ev _ _ _ _ 26 [(2, 14), (0, s0), (3, 0), (3, 0), (3, 0), (3, 0), (3, 0), (3, 0), (3, 0)] [(0, x3)] H1 G2 _
  refine e3_K [0] 29 [(2, 14), (0, s0), (3, 0), (3, 0), (3, 0), (3, 0), (3, 0), (3, 0), (3, 0)] [(0, 260), (0, x3)] (H1) (G2) (wZ L xs) (M := tbM56) rfl rfl trivial ?_
  refine e3_br (M := tbM56) rfl rfl rfl Iff.rfl (fun hc => ?_) (fun hc => ?_)
  · replace h := h.1 hc
    refine e3_K [0, 4, 0, 0, 0] 39 [(2, 14), (0, s0), (3, 0), (3, 0), (3, 0), (3, 0), (3, 0), (3, 0), (3, 0)] [(0, (e3_w32 (s0 + 1))), (2, 3)] (H1) (G2) (wZ L xs) (M := tbM56) rfl rfl ⟨trivial, trivial⟩ ?_
    refine e3_call (o := 0) (k := 57) (M2 := tbM57) (f1 := 1) (w1 := 21) (as := [(2, 3), (0, (e3_w32 (s0 + 1)))]) (rest := []) (M := tbM56) rfl rfl rfl trivial (Nat.le_of_ble_eq_true rfl) (Nat.le_of_ble_eq_true rfl) (Nat.le_of_ble_eq_true rfl) ?_
    refine e3_mono (sT_typeBehind L xs _ _ _ _ h) (fun r H4 G5 h => ?_)
    obtain ⟨x6, rfl, h⟩ := h
    change e3_Ev _ _ _ _ 42 [(2, 14), (0, s0), (3, 0), (3, 0), (3, 0), (3, 0), (3, 0), (3, 0), (3, 0)] [(0, x6)] H4 G5 _
    refine e3_K [0] 45 [(2, 14), (0, s0), (3, 0), (3, 0), (3, 0), (3, 0), (3, 0), (3, 0), (3, 0)] [(0, 262), (0, x6)] (H4) (G5) (wZ L xs) (M := tbM56) rfl rfl trivial ?_
    refine e3_br (M := tbM56) rfl rfl rfl Iff.rfl (fun hc => ?_) (fun hc => ?_)
    · replace h := h.1 hc
      refine e3_K [0, 0] 53 [(2, 14), (0, s0), (3, 0), (3, 0), (3, 0), (3, 0), (3, 0), (3, 0), (3, 0)] [(0, 1)] (H4) (G5) (wZ L xs) (M := tbM56) rfl rfl trivial ?_
      exact sR_isTurnedRange_53 L xs Q _ _ _ _ h
    · replace h := h.2 hc
      exact sR_isTurnedRange_52 L xs Q _ _ _ h
  · replace h := h.2 hc
    exact sR_isTurnedRange_52 L xs Q _ _ _ h
set_option maxRecDepth 100000 in
set_option maxHeartbeats 4000000 in
theorem sR_isTurnedRange (L : Nat) (xs : Nat → Int32) (Q : Int → e3_H → e3_G → Prop)  (H : e3_H) (G : e3_G) (h : wR_isTurnedRange Q  H G) : e3_Ev (wB L xs) 2 42 56 0 [(2, 14), (3, 0), (3, 0), (3, 0), (3, 0), (3, 0), (3, 0), (3, 0), (3, 0)] [] H G (e3_q0 Q) := by
  unfold wR_isTurnedRange at h
  refine e3_K [0, 4, 2, 0] 9 [(2, 14), (3, 0), (3, 0), (3, 0), (3, 0), (3, 0), (3, 0), (3, 0), (3, 0)] [(0, 45), (0, (H 3 7))] (H) (G) (wZ L xs) (M := tbM56) rfl rfl ⟨trivial, trivial, trivial⟩ ?_
  refine e3_br (M := tbM56) rfl rfl rfl Iff.rfl (fun hc => ?_) (fun hc => ?_)
  · replace h := h.1 hc
    refine e3_K [0, 0] 17 [(2, 14), (3, 0), (3, 0), (3, 0), (3, 0), (3, 0), (3, 0), (3, 0), (3, 0)] [(0, 1)] (H) (G) (wZ L xs) (M := tbM56) rfl rfl trivial ?_
    exact sR_isTurnedRange_17 L xs Q _ _ _ h
  · replace h := h.2 hc
    refine e3_K [0] 17 [(2, 14), (3, 0), (3, 0), (3, 0), (3, 0), (3, 0), (3, 0), (3, 0), (3, 0)] [(0, 0)] (H) (G) (wZ L xs) (M := tbM56) rfl rfl trivial ?_
    exact sR_isTurnedRange_17 L xs Q _ _ _ h
/-- LetterPost$Pattern.<init>(II)V -/
def wA_init (Q : e3_H → e3_G → Prop) (l0 : Int) (l1 : Int) (l2 : Int) (H : e3_H) (G : e3_G) : Prop :=
  ((0 : Int) ≤ l0) ∧ (e3_ob G 10 l0) ∧ ∀ H1 : e3_H, H1 = e3_up H l0 0 0 → (e3_ob G 10 l0) ∧ ∀ H3 : e3_H, H3 = e3_up H1 l0 9 1 → (e3_ob G 10 l0) ∧ ∀ H5 : e3_H, H5 = e3_up H3 l0 1 l1 → (e3_ob G 10 l0) ∧ ∀ H7 : e3_H, H7 = e3_up H5 l0 2 l2 → Q H7 G
set_option maxRecDepth 100000 in
set_option maxHeartbeats 4000000 in
theorem sA_init (L : Nat) (xs : Nat → Int32) (Q : e3_H → e3_G → Prop) (l0 : Int) (l1 : Int) (l2 : Int) (H : e3_H) (G : e3_G) (h : wA_init Q l0 l1 l2 H G) : e3_Ev (wB L xs) 1 40 59 0 [(2, l0), (0, l1), (0, l2)] [] H G (e3_qv Q) := by
  unfold wA_init at h
  refine e3_K [0] 1 [(2, l0), (0, l1), (0, l2)] [(2, l0)] (H) (G) (wZ L xs) (M := tbM59) rfl rfl trivial ?_
  obtain ⟨oz, h⟩ := h
  refine e3_oi (M := tbM59) rfl rfl rfl oz (Nat.le_of_ble_eq_true rfl) (Nat.le_of_ble_eq_true rfl) ?_
  obtain ⟨o2, h⟩ := h
  refine e3_K [0, 0, 3] 9 [(2, l0), (0, l1), (0, l2)] [] (e3_up H l0 0 0) (G) (wZ L xs) (M := tbM59) rfl rfl ⟨⟨o2, trivial⟩, trivial⟩ ?_
  generalize hH1 : (e3_up H l0 0 0) = H1
  replace h := h H1 hH1.symm
  obtain ⟨o4, h⟩ := h
  refine e3_K [0, 0, 3] 14 [(2, l0), (0, l1), (0, l2)] [] (e3_up H1 l0 9 1) (G) (wZ L xs) (M := tbM59) rfl rfl ⟨⟨o4, trivial⟩, trivial⟩ ?_
  generalize hH3 : (e3_up H1 l0 9 1) = H3
  replace h := h H3 hH3.symm
  obtain ⟨o6, h⟩ := h
  refine e3_K [0, 0, 3] 19 [(2, l0), (0, l1), (0, l2)] [] (e3_up H3 l0 1 l1) (G) (wZ L xs) (M := tbM59) rfl rfl ⟨⟨o6, trivial⟩, trivial⟩ ?_
  generalize hH5 : (e3_up H3 l0 1 l1) = H5
  replace h := h H5 hH5.symm
  obtain ⟨o8, h⟩ := h
  refine e3_K [0, 0, 3] 24 [(2, l0), (0, l1), (0, l2)] [] (e3_up H5 l0 2 l2) (G) (wZ L xs) (M := tbM59) rfl rfl ⟨⟨o8, trivial⟩, trivial⟩ ?_
  generalize hH7 : (e3_up H5 l0 2 l2) = H7
  replace h := h H7 hH7.symm
  exact e3_retv (M := tbM59) rfl rfl rfl ⟨rfl, h⟩
