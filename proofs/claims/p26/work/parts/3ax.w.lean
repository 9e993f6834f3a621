/-- LetterPostModel.sift()I -/
def wM_sift_133 (Q : Int → e3_H → e3_G → Prop) (k5 : Int → Int → e3_H → e3_G → Prop) (l2 : Int) (s0 : Int) (H : e3_H) (G : e3_G) : Prop :=
  (k5 s0 (e3_w32 (l2 + 1)) H G)
def wM_sift_132 (Q : Int → e3_H → e3_G → Prop) (k5 : Int → Int → e3_H → e3_G → Prop) (l1 : Int) (l2 : Int) (H : e3_H) (G : e3_G) : Prop :=
  (wM_sift_133 Q k5 l2 l1 H G)
def wM_sift_113 (Q : Int → e3_H → e3_G → Prop) (k5 : Int → Int → e3_H → e3_G → Prop) (l1 : Int) (l2 : Int) (H : e3_H) (G : e3_G) : Prop :=
  (((l1 : Int) = (-4) → ((0 : Int) ≤ l2 ∧ (l2 : Int) < 40) ∧ ((((H 93 l2) : Int) = 0 → (wM_sift_132 Q k5 l1 l2 H G)) ∧ (¬ (((H 93 l2) : Int) = 0) → (wM_sift_133 Q k5 l2 l2 H G)))) ∧ (¬ ((l1 : Int) = (-4)) → (wM_sift_132 Q k5 l1 l2 H G)))
def wM_sift_106 (Q : Int → e3_H → e3_G → Prop) (k5 : Int → Int → e3_H → e3_G → Prop) (k45 : Int → Int → Int → e3_H → e3_G → Prop) (l1 : Int) (l2 : Int) (l3 : Int) (s0 : Int) (s1 : Int) (H : e3_H) (G : e3_G) : Prop :=
  ((0 : Int) ≤ s1 ∧ (s1 : Int) < 40) ∧ ∀ H1 : e3_H, H1 = e3_up H 93 s1 (e3_and s0 1) → (k45 l1 l2 (e3_w32 (l3 + 1)) H1 G)
def wM_sift_89 (Q : Int → e3_H → e3_G → Prop) (k5 : Int → Int → e3_H → e3_G → Prop) (k45 : Int → Int → Int → e3_H → e3_G → Prop) (l1 : Int) (l2 : Int) (l3 : Int) (l4 : Int) (s0 : Int) (s1 : Int) (H : e3_H) (G : e3_G) : Prop :=
  ((0 : Int) ≤ s1 ∧ (s1 : Int) < 33000) ∧ ∀ H1 : e3_H, H1 = e3_up H 92 s1 (e3_and s0 1) → (((l4 : Int) = 2 → (wM_sift_106 Q k5 k45 l1 l2 l3 0 l2 H1 G)) ∧ (¬ ((l4 : Int) = 2) → (wM_sift_106 Q k5 k45 l1 l2 l3 1 l2 H1 G)))
def wM_sift_45 (Q : Int → e3_H → e3_G → Prop) (k5 : Int → Int → e3_H → e3_G → Prop) : Nat → Int → Int → Int → e3_H → e3_G → Prop
  | 0, _, _, _, _, _ => False
  | nn + 1, l1, l2, l3, H, G => ((0 : Int) ≤ (e3_w32 (l2 + 1)) ∧ ((e3_w32 (l2 + 1)) : Int) < 41) ∧ (((l3 : Int) < (H 88 (e3_w32 (l2 + 1))) → ((0 : Int) ≤ l2 ∧ (l2 : Int) < 40) ∧ ((((H 93 l2) : Int) = 0 → (wM_sift_113 Q k5 l1 l2 H G)) ∧ (¬ (((H 93 l2) : Int) = 0) → (wM_stands (fun x5 H3 G4 => (((x5 : Int) = 1 → (wM_sift_89 Q k5 (fun l1 l2 l3 H G => wM_sift_45 Q k5 nn l1 l2 l3 H G) l1 l2 l3 x5 1 l3 H3 G4)) ∧ (¬ ((x5 : Int) = 1) → (wM_sift_89 Q k5 (fun l1 l2 l3 H G => wM_sift_45 Q k5 nn l1 l2 l3 H G) l1 l2 l3 x5 0 l3 H3 G4)))) l3 H G)))) ∧ (¬ ((l3 : Int) < (H 88 (e3_w32 (l2 + 1)))) → (wM_sift_113 Q k5 l1 l2 H G)))
def wM_sift_37 (Q : Int → e3_H → e3_G → Prop) (k5 : Int → Int → e3_H → e3_G → Prop) (l1 : Int) (l2 : Int) (s0 : Int) (s1 : Int) (H : e3_H) (G : e3_G) : Prop :=
  ((0 : Int) ≤ s1 ∧ (s1 : Int) < 40) ∧ ∀ H1 : e3_H, H1 = e3_up H 93 s1 (e3_and s0 1) → ((0 : Int) ≤ l2 ∧ (l2 : Int) < 41) ∧ (∃ n, wM_sift_45 Q k5 n l1 l2 (H1 88 l2) H1 G)
def wM_sift_5 (Q : Int → e3_H → e3_G → Prop) : Nat → Int → Int → e3_H → e3_G → Prop
  | 0, _, _, _, _ => False
  | nn + 1, l1, l2, H, G => (((l2 : Int) < (H 40 61) → ((0 : Int) ≤ l2 ∧ (l2 : Int) < 40) ∧ ((0 : Int) ≤ (H 86 l2) ∧ ((H 86 l2) : Int) < 192) ∧ ((((H 127 (H 86 l2)) : Int) = 0 → (wM_sift_37 Q (fun l1 l2 H G => wM_sift_5 Q nn l1 l2 H G) l1 l2 1 l2 H G)) ∧ (¬ (((H 127 (H 86 l2)) : Int) = 0) → (wM_sift_37 Q (fun l1 l2 H G => wM_sift_5 Q nn l1 l2 H G) l1 l2 0 l2 H G)))) ∧ (¬ ((l2 : Int) < (H 40 61)) → Q l1 H G))
def wM_sift (Q : Int → e3_H → e3_G → Prop)  (H : e3_H) (G : e3_G) : Prop :=
  (∃ n, wM_sift_5 Q n (-4) 0 H G)
set_option maxRecDepth 100000 in
set_option maxHeartbeats 4000000 in
theorem sM_sift_133 (L : Nat) (xs : Nat → Int32) (Q : Int → e3_H → e3_G → Prop) (k5 : Int → Int → e3_H → e3_G → Prop) (hk5 : ∀ (l1 : Int) (l2 : Int) (H : e3_H) (G : e3_G), k5 l1 l2 H G → e3_Ev (wB L xs) 2 47 251 5 [(2, 40), (0, l1), (0, l2), (3, 0), (3, 0)] [] H G (e3_q0 Q)) (l2 : Int) (s0 : Int) (H : e3_H) (G : e3_G) (h : wM_sift_133 Q k5 l2 s0 H G) : e3_Ev (wB L xs) 2 47 251 133 [(2, 40), (3, 0), (0, l2), (3, 0), (3, 0)] [(0, s0)] H G (e3_q0 Q) := by
  unfold wM_sift_133 at h
  refine e3_K [0, 0, 0] 5 [(2, 40), (0, s0), (0, (e3_w32 (l2 + 1))), (3, 0), (3, 0)] [] (H) (G) (wZ L xs) (M := tbM251) rfl rfl trivial ?_
  exact hk5 _ _ _ _ h
set_option maxRecDepth 100000 in
set_option maxHeartbeats 4000000 in
theorem sM_sift_132 (L : Nat) (xs : Nat → Int32) (Q : Int → e3_H → e3_G → Prop) (k5 : Int → Int → e3_H → e3_G → Prop) (hk5 : ∀ (l1 : Int) (l2 : Int) (H : e3_H) (G : e3_G), k5 l1 l2 H G → e3_Ev (wB L xs) 2 47 251 5 [(2, 40), (0, l1), (0, l2), (3, 0), (3, 0)] [] H G (e3_q0 Q)) (l1 : Int) (l2 : Int) (H : e3_H) (G : e3_G) (h : wM_sift_132 Q k5 l1 l2 H G) : e3_Ev (wB L xs) 2 47 251 132 [(2, 40), (0, l1), (0, l2), (3, 0), (3, 0)] [] H G (e3_q0 Q) := by
  unfold wM_sift_132 at h
  refine e3_K [0] 133 [(2, 40), (0, l1), (0, l2), (3, 0), (3, 0)] [(0, l1)] (H) (G) (wZ L xs) (M := tbM251) rfl rfl trivial ?_
  refine e3_fgt [true, false, true, false, false] ?_
  exact sM_sift_133 L xs Q k5 hk5 _ _ _ _ h
set_option maxRecDepth 100000 in
set_option maxHeartbeats 4000000 in
theorem sM_sift_113 (L : Nat) (xs : Nat → Int32) (Q : Int → e3_H → e3_G → Prop) (k5 : Int → Int → e3_H → e3_G → Prop) (hk5 : ∀ (l1 : Int) (l2 : Int) (H : e3_H) (G : e3_G), k5 l1 l2 H G → e3_Ev (wB L xs) 2 47 251 5 [(2, 40), (0, l1), (0, l2), (3, 0), (3, 0)] [] H G (e3_q0 Q)) (l1 : Int) (l2 : Int) (H : e3_H) (G : e3_G) (h : wM_sift_113 Q k5 l1 l2 H G) : e3_Ev (wB L xs) 2 47 251 113 [(2, 40), (0, l1), (0, l2), (3, 0), (3, 0)] [] H G (e3_q0 Q) := by
  unfold wM_sift_113 at h
  refine e3_K [0, 0] 116 [(2, 40), (0, l1), (0, l2), (3, 0), (3, 0)] [(0, (-4)), (0, l1)] (H) (G) (wZ L xs) (M := tbM251) rfl rfl trivial ?_
  refine e3_br (M := tbM251) rfl rfl rfl Iff.rfl (fun hc => ?_) (fun hc => ?_)
  · replace h := h.1 hc
    obtain ⟨o1, h⟩ := h
    refine e3_K [0, 4, 0, 2] 125 [(2, 40), (0, l1), (0, l2), (3, 0), (3, 0)] [(0, (H 93 l2))] (H) (G) (wZ L xs) (M := tbM251) rfl rfl ⟨trivial, o1, trivial⟩ ?_
    refine e3_br (M := tbM251) rfl rfl rfl Iff.rfl (fun hc => ?_) (fun hc => ?_)
    · replace h := h.1 hc
      exact sM_sift_132 L xs Q k5 hk5 _ _ _ _ h
    · replace h := h.2 hc
      refine e3_K [0, 0] 133 [(2, 40), (0, l1), (0, l2), (3, 0), (3, 0)] [(0, l2)] (H) (G) (wZ L xs) (M := tbM251) rfl rfl trivial ?_
      refine e3_fgt [true, false, true, false, false] ?_
      exact sM_sift_133 L xs Q k5 hk5 _ _ _ _ h
  · replace h := h.2 hc
    exact sM_sift_132 L xs Q k5 hk5 _ _ _ _ h
set_option maxRecDepth 100000 in
set_option maxHeartbeats 4000000 in
theorem sM_sift_106 (L : Nat) (xs : Nat → Int32) (Q : Int → e3_H → e3_G → Prop) (k5 : Int → Int → e3_H → e3_G → Prop) (hk5 : ∀ (l1 : Int) (l2 : Int) (H : e3_H) (G : e3_G), k5 l1 l2 H G → e3_Ev (wB L xs) 2 47 251 5 [(2, 40), (0, l1), (0, l2), (3, 0), (3, 0)] [] H G (e3_q0 Q)) (k45 : Int → Int → Int → e3_H → e3_G → Prop) (hk45 : ∀ (l1 : Int) (l2 : Int) (l3 : Int) (H : e3_H) (G : e3_G), k45 l1 l2 l3 H G → e3_Ev (wB L xs) 2 47 251 45 [(2, 40), (0, l1), (0, l2), (0, l3), (3, 0)] [] H G (e3_q0 Q)) (l1 : Int) (l2 : Int) (l3 : Int) (s0 : Int) (s1 : Int) (H : e3_H) (G : e3_G) (h : wM_sift_106 Q k5 k45 l1 l2 l3 s0 s1 H G) : e3_Ev (wB L xs) 2 47 251 106 [(2, 40), (0, l1), (0, l2), (0, l3), (3, 0)] [(0, s0), (0, s1), (2, 93)] H G (e3_q0 Q) := by
  unfold wM_sift_106 at h
  obtain ⟨o2, h⟩ := h
  refine e3_K [2] 107 [(2, 40), (0, l1), (0, l2), (0, l3), (3, 0)] [] (e3_up H 93 s1 (e3_and s0 1)) (G) (wZ L xs) (M := tbM251) rfl rfl ⟨o2, trivial⟩ ?_
  generalize hH1 : (e3_up H 93 s1 (e3_and s0 1)) = H1
  replace h := h H1 hH1.symm
  refine e3_K [0, 0] 45 [(2, 40), (0, l1), (0, l2), (0, (e3_w32 (l3 + 1))), (3, 0)] [] (H1) (G) (wZ L xs) (M := tbM251) rfl rfl trivial ?_
  exact hk45 _ _ _ _ _ h
set_option maxRecDepth 100000 in
set_option maxHeartbeats 4000000 in
theorem sM_sift_89 (L : Nat) (xs : Nat → Int32) (Q : Int → e3_H → e3_G → Prop) (k5 : Int → Int → e3_H → e3_G → Prop) (hk5 : ∀ (l1 : Int) (l2 : Int) (H : e3_H) (G : e3_G), k5 l1 l2 H G → e3_Ev (wB L xs) 2 47 251 5 [(2, 40), (0, l1), (0, l2), (3, 0), (3, 0)] [] H G (e3_q0 Q)) (k45 : Int → Int → Int → e3_H → e3_G → Prop) (hk45 : ∀ (l1 : Int) (l2 : Int) (l3 : Int) (H : e3_H) (G : e3_G), k45 l1 l2 l3 H G → e3_Ev (wB L xs) 2 47 251 45 [(2, 40), (0, l1), (0, l2), (0, l3), (3, 0)] [] H G (e3_q0 Q)) (l1 : Int) (l2 : Int) (l3 : Int) (l4 : Int) (s0 : Int) (s1 : Int) (H : e3_H) (G : e3_G) (h : wM_sift_89 Q k5 k45 l1 l2 l3 l4 s0 s1 H G) : e3_Ev (wB L xs) 2 47 251 89 [(2, 40), (0, l1), (0, l2), (0, l3), (0, l4)] [(0, s0), (0, s1), (2, 92)] H G (e3_q0 Q) := by
  unfold wM_sift_89 at h
  obtain ⟨o2, h⟩ := h
  refine e3_K [2] 90 [(2, 40), (0, l1), (0, l2), (0, l3), (0, l4)] [] (e3_up H 92 s1 (e3_and s0 1)) (G) (wZ L xs) (M := tbM251) rfl rfl ⟨o2, trivial⟩ ?_
  generalize hH1 : (e3_up H 92 s1 (e3_and s0 1)) = H1
  replace h := h H1 hH1.symm
  refine e3_K [0, 4, 0, 0, 0] 98 [(2, 40), (0, l1), (0, l2), (0, l3), (0, l4)] [(0, 2), (0, l4), (0, l2), (2, 93)] (H1) (G) (wZ L xs) (M := tbM251) rfl rfl ⟨trivial, trivial⟩ ?_
  refine e3_br (M := tbM251) rfl rfl rfl Iff.rfl (fun hc => ?_) (fun hc => ?_)
  · replace h := h.1 hc
    refine e3_K [0] 106 [(2, 40), (0, l1), (0, l2), (0, l3), (0, l4)] [(0, 0), (0, l2), (2, 93)] (H1) (G) (wZ L xs) (M := tbM251) rfl rfl trivial ?_
    refine e3_fgt [true, true, true, true, false] ?_
    exact sM_sift_106 L xs Q k5 hk5 k45 hk45 _ _ _ _ _ _ _ h
  · replace h := h.2 hc
    refine e3_K [0, 0] 106 [(2, 40), (0, l1), (0, l2), (0, l3), (0, l4)] [(0, 1), (0, l2), (2, 93)] (H1) (G) (wZ L xs) (M := tbM251) rfl rfl trivial ?_
    refine e3_fgt [true, true, true, true, false] ?_
    exact sM_sift_106 L xs Q k5 hk5 k45 hk45 _ _ _ _ _ _ _ h
set_option maxRecDepth 100000 in
set_option maxHeartbeats 4000000 in
theorem sM_sift_45 (L : Nat) (xs : Nat → Int32) (Q : Int → e3_H → e3_G → Prop) (k5 : Int → Int → e3_H → e3_G → Prop) (hk5 : ∀ (l1 : Int) (l2 : Int) (H : e3_H) (G : e3_G), k5 l1 l2 H G → e3_Ev (wB L xs) 2 47 251 5 [(2, 40), (0, l1), (0, l2), (3, 0), (3, 0)] [] H G (e3_q0 Q)) : ∀ (nl : Nat) (l1 : Int) (l2 : Int) (l3 : Int) (H : e3_H) (G : e3_G), wM_sift_45 Q k5 nl l1 l2 l3 H G → e3_Ev (wB L xs) 2 47 251 45 [(2, 40), (0, l1), (0, l2), (0, l3), (3, 0)] [] H G (e3_q0 Q) := by
  intro nl
  induction nl with
  | zero => intro l1 l2 l3 H G h; exact h.elim
  | succ nn ih =>
    intro l1 l2 l3 H G h
    have h : ((0 : Int) ≤ (e3_w32 (l2 + 1)) ∧ ((e3_w32 (l2 + 1)) : Int) < 41) ∧ (((l3 : Int) < (H 88 (e3_w32 (l2 + 1))) → ((0 : Int) ≤ l2 ∧ (l2 : Int) < 40) ∧ ((((H 93 l2) : Int) = 0 → (wM_sift_113 Q k5 l1 l2 H G)) ∧ (¬ (((H 93 l2) : Int) = 0) → (wM_stands (fun x5 H3 G4 => (((x5 : Int) = 1 → (wM_sift_89 Q k5 (fun l1 l2 l3 H G => wM_sift_45 Q k5 nn l1 l2 l3 H G) l1 l2 l3 x5 1 l3 H3 G4)) ∧ (¬ ((x5 : Int) = 1) → (wM_sift_89 Q k5 (fun l1 l2 l3 H G => wM_sift_45 Q k5 nn l1 l2 l3 H G) l1 l2 l3 x5 0 l3 H3 G4)))) l3 H G)))) ∧ (¬ ((l3 : Int) < (H 88 (e3_w32 (l2 + 1)))) → (wM_sift_113 Q k5 l1 l2 H G))) := h
    obtain ⟨o1, h⟩ := h
    refine e3_K [0, 0, 4, 0, 0, 0, 2] 54 [(2, 40), (0, l1), (0, l2), (0, l3), (3, 0)] [(0, (H 88 (e3_w32 (l2 + 1)))), (0, l3)] (H) (G) (wZ L xs) (M := tbM251) rfl rfl ⟨trivial, o1, trivial⟩ ?_
    refine e3_br (M := tbM251) rfl rfl rfl Iff.rfl (fun hc => ?_) (fun hc => ?_)
    · replace h := h.1 hc
      obtain ⟨o2, h⟩ := h
      refine e3_K [0, 4, 0, 2] 63 [(2, 40), (0, l1), (0, l2), (0, l3), (3, 0)] [(0, (H 93 l2))] (H) (G) (wZ L xs) (M := tbM251) rfl rfl ⟨trivial, o2, trivial⟩ ?_
      refine e3_br (M := tbM251) rfl rfl rfl Iff.rfl (fun hc => ?_) (fun hc => ?_)
      · replace h := h.1 hc
        refine e3_fgt [true, true, true, false, false] ?_
        exact sM_sift_113 L xs Q k5 hk5 _ _ _ _ h
      · replace h := h.2 hc
        refine e3_K [0, 0] 68 [(2, 40), (0, l1), (0, l2), (0, l3), (3, 0)] [(0, l3), (2, 40)] (H) (G) (wZ L xs) (M := tbM251) rfl rfl trivial ?_
        refine e3_call (o := 0) (k := 252) (M2 := tbM252) (f1 := 1) (w1 := 23) (as := [(2, 40), (0, l3)]) (rest := []) (M := tbM251) rfl rfl rfl trivial (Nat.le_of_ble_eq_true rfl) (Nat.le_of_ble_eq_true rfl) (Nat.le_of_ble_eq_true rfl) ?_
        refine e3_mono (sM_stands L xs _ _ _ _ h) (fun r H3 G4 h => ?_)
        obtain ⟨x5, rfl, h⟩ := h
        change e3_Ev _ _ _ _ 71 [(2, 40), (0, l1), (0, l2), (0, l3), (3, 0)] [(0, x5)] H3 G4 _
        refine e3_K [0, 0, 4, 0, 0, 0] 81 [(2, 40), (0, l1), (0, l2), (0, l3), (0, x5)] [(0, 1), (0, x5), (0, l3), (2, 92)] (H3) (G4) (wZ L xs) (M := tbM251) rfl rfl ⟨trivial, trivial⟩ ?_
        refine e3_br (M := tbM251) rfl rfl rfl Iff.rfl (fun hc => ?_) (fun hc => ?_)
        · replace h := h.1 hc
          refine e3_K [0, 0] 89 [(2, 40), (0, l1), (0, l2), (0, l3), (0, x5)] [(0, 1), (0, l3), (2, 92)] (H3) (G4) (wZ L xs) (M := tbM251) rfl rfl trivial ?_
          exact sM_sift_89 L xs Q k5 hk5 (fun l1 l2 l3 H G => wM_sift_45 Q k5 nn l1 l2 l3 H G) ih _ _ _ _ _ _ _ _ h
        · replace h := h.2 hc
          refine e3_K [0] 89 [(2, 40), (0, l1), (0, l2), (0, l3), (0, x5)] [(0, 0), (0, l3), (2, 92)] (H3) (G4) (wZ L xs) (M := tbM251) rfl rfl trivial ?_
          exact sM_sift_89 L xs Q k5 hk5 (fun l1 l2 l3 H G => wM_sift_45 Q k5 nn l1 l2 l3 H G) ih _ _ _ _ _ _ _ _ h
    · replace h := h.2 hc
      refine e3_fgt [true, true, true, false, false] ?_
      exact sM_sift_113 L xs Q k5 hk5 _ _ _ _ h
set_option maxRecDepth 100000 in
set_option maxHeartbeats 4000000 in
theorem sM_sift_37 (L : Nat) (xs : Nat → Int32) (Q : Int → e3_H → e3_G → Prop) (k5 : Int → Int → e3_H → e3_G → Prop) (hk5 : ∀ (l1 : Int) (l2 : Int) (H : e3_H) (G : e3_G), k5 l1 l2 H G → e3_Ev (wB L xs) 2 47 251 5 [(2, 40), (0, l1), (0, l2), (3, 0), (3, 0)] [] H G (e3_q0 Q)) (l1 : Int) (l2 : Int) (s0 : Int) (s1 : Int) (H : e3_H) (G : e3_G) (h : wM_sift_37 Q k5 l1 l2 s0 s1 H G) : e3_Ev (wB L xs) 2 47 251 37 [(2, 40), (0, l1), (0, l2), (3, 0), (3, 0)] [(0, s0), (0, s1), (2, 93)] H G (e3_q0 Q) := by
  unfold wM_sift_37 at h
  obtain ⟨o2, h⟩ := h
  refine e3_K [2] 38 [(2, 40), (0, l1), (0, l2), (3, 0), (3, 0)] [] (e3_up H 93 s1 (e3_and s0 1)) (G) (wZ L xs) (M := tbM251) rfl rfl ⟨o2, trivial⟩ ?_
  generalize hH1 : (e3_up H 93 s1 (e3_and s0 1)) = H1
  replace h := h H1 hH1.symm
  obtain ⟨o3, h⟩ := h
  refine e3_K [0, 4, 0, 2, 0] 45 [(2, 40), (0, l1), (0, l2), (0, (H1 88 l2)), (3, 0)] [] (H1) (G) (wZ L xs) (M := tbM251) rfl rfl ⟨trivial, o3, trivial⟩ ?_
  obtain ⟨nl, h⟩ := h
  exact sM_sift_45 L xs Q k5 hk5 nl _ _ _ _ _ h
set_option maxRecDepth 100000 in
set_option maxHeartbeats 4000000 in
theorem sM_sift_5 (L : Nat) (xs : Nat → Int32) (Q : Int → e3_H → e3_G → Prop) : ∀ (nl : Nat) (l1 : Int) (l2 : Int) (H : e3_H) (G : e3_G), wM_sift_5 Q nl l1 l2 H G → e3_Ev (wB L xs) 2 47 251 5 [(2, 40), (0, l1), (0, l2), (3, 0), (3, 0)] [] H G (e3_q0 Q) := by
  intro nl
  induction nl with
  | zero => intro l1 l2 H G h; exact h.elim
  | succ nn ih =>
    intro l1 l2 H G h
    have h : (((l2 : Int) < (H 40 61) → ((0 : Int) ≤ l2 ∧ (l2 : Int) < 40) ∧ ((0 : Int) ≤ (H 86 l2) ∧ ((H 86 l2) : Int) < 192) ∧ ((((H 127 (H 86 l2)) : Int) = 0 → (wM_sift_37 Q (fun l1 l2 H G => wM_sift_5 Q nn l1 l2 H G) l1 l2 1 l2 H G)) ∧ (¬ (((H 127 (H 86 l2)) : Int) = 0) → (wM_sift_37 Q (fun l1 l2 H G => wM_sift_5 Q nn l1 l2 H G) l1 l2 0 l2 H G)))) ∧ (¬ ((l2 : Int) < (H 40 61)) → Q l1 H G)) := h
    refine e3_K [0, 0, 2] 10 [(2, 40), (0, l1), (0, l2), (3, 0), (3, 0)] [(0, (H 40 61)), (0, l2)] (H) (G) (wZ L xs) (M := tbM251) rfl rfl ⟨trivial, trivial⟩ ?_
    refine e3_br (M := tbM251) rfl rfl rfl Iff.rfl (fun hc => ?_) (fun hc => ?_)
    · replace h := h.1 hc
      obtain ⟨o1, o2, h⟩ := h
      refine e3_K [0, 4, 0, 0, 4, 0, 4, 0, 2, 2] 29 [(2, 40), (0, l1), (0, l2), (3, 0), (3, 0)] [(0, (H 127 (H 86 l2))), (0, l2), (2, 93)] (H) (G) (wZ L xs) (M := tbM251) rfl rfl ⟨trivial, trivial, trivial, o1, o2, trivial⟩ ?_
      refine e3_br (M := tbM251) rfl rfl rfl Iff.rfl (fun hc => ?_) (fun hc => ?_)
      · replace h := h.1 hc
        refine e3_K [0, 0] 37 [(2, 40), (0, l1), (0, l2), (3, 0), (3, 0)] [(0, 1), (0, l2), (2, 93)] (H) (G) (wZ L xs) (M := tbM251) rfl rfl trivial ?_
        exact sM_sift_37 L xs Q (fun l1 l2 H G => wM_sift_5 Q nn l1 l2 H G) ih _ _ _ _ _ _ h
      · replace h := h.2 hc
        refine e3_K [0] 37 [(2, 40), (0, l1), (0, l2), (3, 0), (3, 0)] [(0, 0), (0, l2), (2, 93)] (H) (G) (wZ L xs) (M := tbM251) rfl rfl trivial ?_
        exact sM_sift_37 L xs Q (fun l1 l2 H G => wM_sift_5 Q nn l1 l2 H G) ih _ _ _ _ _ _ h
    · replace h := h.2 hc
      refine e3_K [0] 141 [(2, 40), (0, l1), (0, l2), (3, 0), (3, 0)] [(0, l1)] (H) (G) (wZ L xs) (M := tbM251) rfl rfl trivial ?_
      exact e3_reti (M := tbM251) rfl rfl rfl ⟨_, rfl, h⟩
set_option maxRecDepth 100000 in
set_option maxHeartbeats 4000000 in
theorem sM_sift (L : Nat) (xs : Nat → Int32) (Q : Int → e3_H → e3_G → Prop)  (H : e3_H) (G : e3_G) (h : wM_sift Q  H G) : e3_Ev (wB L xs) 2 47 251 0 [(2, 40), (3, 0), (3, 0), (3, 0), (3, 0)] [] H G (e3_q0 Q) := by
  unfold wM_sift at h
  refine e3_K [0, 0, 0, 0] 5 [(2, 40), (0, (-4)), (0, 0), (3, 0), (3, 0)] [] (H) (G) (wZ L xs) (M := tbM251) rfl rfl trivial ?_
  obtain ⟨nl, h⟩ := h
  exact sM_sift_5 L xs Q nl _ _ _ _ h
/-- LetterPostModel.isLeft(II)Z -/
def wM_isLeft_53 (Q : Int → e3_H → e3_G → Prop) (k10 : Int → Int → Int → Int → e3_H → e3_G → Prop) (l1 : Int) (l2 : Int) (l4 : Int) (s0 : Int) (H : e3_H) (G : e3_G) : Prop :=
  (k10 l1 l2 s0 (e3_w32 (l4 + 1)) H G)
def wM_isLeft_48 (Q : Int → e3_H → e3_G → Prop) (k10 : Int → Int → Int → Int → e3_H → e3_G → Prop) (l1 : Int) (l2 : Int) (l4 : Int) (H : e3_H) (G : e3_G) : Prop :=
  (wM_isLeft_53 Q k10 l1 l2 l4 1 H G)
def wM_isLeft_52 (Q : Int → e3_H → e3_G → Prop) (k10 : Int → Int → Int → Int → e3_H → e3_G → Prop) (l1 : Int) (l2 : Int) (l4 : Int) (H : e3_H) (G : e3_G) : Prop :=
  (wM_isLeft_53 Q k10 l1 l2 l4 0 H G)
def wM_isLeft_10 (Q : Int → e3_H → e3_G → Prop) : Nat → Int → Int → Int → Int → e3_H → e3_G → Prop
  | 0, _, _, _, _, _, _ => False
  | nn + 1, l1, l2, l3, l4, H, G => ((0 : Int) ≤ (e3_w32 (l1 + 1)) ∧ ((e3_w32 (l1 + 1)) : Int) < 41) ∧ (((l4 : Int) < (H 88 (e3_w32 (l1 + 1))) → (((l3 : Int) = 0 → ((0 : Int) ≤ l4 ∧ (l4 : Int) < 33000) ∧ ((((H 92 l4) : Int) = 0 → ((0 : Int) ≤ l4 ∧ (l4 : Int) < 33000) ∧ ((((H 90 l4) : Int) = l2 → (wM_isLeft_48 Q (fun l1 l2 l3 l4 H G => wM_isLeft_10 Q nn l1 l2 l3 l4 H G) l1 l2 l4 H G)) ∧ (¬ (((H 90 l4) : Int) = l2) → (wM_isLeft_52 Q (fun l1 l2 l3 l4 H G => wM_isLeft_10 Q nn l1 l2 l3 l4 H G) l1 l2 l4 H G)))) ∧ (¬ (((H 92 l4) : Int) = 0) → (wM_isLeft_52 Q (fun l1 l2 l3 l4 H G => wM_isLeft_10 Q nn l1 l2 l3 l4 H G) l1 l2 l4 H G)))) ∧ (¬ ((l3 : Int) = 0) → (wM_isLeft_48 Q (fun l1 l2 l3 l4 H G => wM_isLeft_10 Q nn l1 l2 l3 l4 H G) l1 l2 l4 H G)))) ∧ (¬ ((l4 : Int) < (H 88 (e3_w32 (l1 + 1)))) → ((l3 : Int) = 0 ∨ l3 = 1) ∧ Q l3 H G))
def wM_isLeft (Q : Int → e3_H → e3_G → Prop) (l1 : Int) (l2 : Int) (H : e3_H) (G : e3_G) : Prop :=
  ((0 : Int) ≤ l1 ∧ (l1 : Int) < 41) ∧ (∃ n, wM_isLeft_10 Q n l1 l2 0 (H 88 l1) H G)
set_option maxRecDepth 100000 in
set_option maxHeartbeats 4000000 in
theorem sM_isLeft_53 (L : Nat) (xs : Nat → Int32) (Q : Int → e3_H → e3_G → Prop) (k10 : Int → Int → Int → Int → e3_H → e3_G → Prop) (hk10 : ∀ (l1 : Int) (l2 : Int) (l3 : Int) (l4 : Int) (H : e3_H) (G : e3_G), k10 l1 l2 l3 l4 H G → e3_Ev (wB L xs) 0 0 254 10 [(2, 40), (0, l1), (0, l2), (0, l3), (0, l4)] [] H G (e3_q0 Q)) (l1 : Int) (l2 : Int) (l4 : Int) (s0 : Int) (H : e3_H) (G : e3_G) (h : wM_isLeft_53 Q k10 l1 l2 l4 s0 H G) : e3_Ev (wB L xs) 0 0 254 53 [(2, 40), (0, l1), (0, l2), (3, 0), (0, l4)] [(0, s0)] H G (e3_q0 Q) := by
  unfold wM_isLeft_53 at h
  refine e3_K [0, 0, 0] 10 [(2, 40), (0, l1), (0, l2), (0, s0), (0, (e3_w32 (l4 + 1)))] [] (H) (G) (wZ L xs) (M := tbM254) rfl rfl trivial ?_
  exact hk10 _ _ _ _ _ _ h
set_option maxRecDepth 100000 in
set_option maxHeartbeats 4000000 in
theorem sM_isLeft_48 (L : Nat) (xs : Nat → Int32) (Q : Int → e3_H → e3_G → Prop) (k10 : Int → Int → Int → Int → e3_H → e3_G → Prop) (hk10 : ∀ (l1 : Int) (l2 : Int) (l3 : Int) (l4 : Int) (H : e3_H) (G : e3_G), k10 l1 l2 l3 l4 H G → e3_Ev (wB L xs) 0 0 254 10 [(2, 40), (0, l1), (0, l2), (0, l3), (0, l4)] [] H G (e3_q0 Q)) (l1 : Int) (l2 : Int) (l4 : Int) (H : e3_H) (G : e3_G) (h : wM_isLeft_48 Q k10 l1 l2 l4 H G) : e3_Ev (wB L xs) 0 0 254 48 [(2, 40), (0, l1), (0, l2), (3, 0), (0, l4)] [] H G (e3_q0 Q) := by
  unfold wM_isLeft_48 at h
  refine e3_K [0, 0] 53 [(2, 40), (0, l1), (0, l2), (3, 0), (0, l4)] [(0, 1)] (H) (G) (wZ L xs) (M := tbM254) rfl rfl trivial ?_
  exact sM_isLeft_53 L xs Q k10 hk10 _ _ _ _ _ _ h
set_option maxRecDepth 100000 in
set_option maxHeartbeats 4000000 in
theorem sM_isLeft_52 (L : Nat) (xs : Nat → Int32) (Q : Int → e3_H → e3_G → Prop) (k10 : Int → Int → Int → Int → e3_H → e3_G → Prop) (hk10 : ∀ (l1 : Int) (l2 : Int) (l3 : Int) (l4 : Int) (H : e3_H) (G : e3_G), k10 l1 l2 l3 l4 H G → e3_Ev (wB L xs) 0 0 254 10 [(2, 40), (0, l1), (0, l2), (0, l3), (0, l4)] [] H G (e3_q0 Q)) (l1 : Int) (l2 : Int) (l4 : Int) (H : e3_H) (G : e3_G) (h : wM_isLeft_52 Q k10 l1 l2 l4 H G) : e3_Ev (wB L xs) 0 0 254 52 [(2, 40), (0, l1), (0, l2), (3, 0), (0, l4)] [] H G (e3_q0 Q) := by
  unfold wM_isLeft_52 at h
  refine e3_K [0] 53 [(2, 40), (0, l1), (0, l2), (3, 0), (0, l4)] [(0, 0)] (H) (G) (wZ L xs) (M := tbM254) rfl rfl trivial ?_
  exact sM_isLeft_53 L xs Q k10 hk10 _ _ _ _ _ _ h
set_option maxRecDepth 100000 in
set_option maxHeartbeats 4000000 in
theorem sM_isLeft_10 (L : Nat) (xs : Nat → Int32) (Q : Int → e3_H → e3_G → Prop) : ∀ (nl : Nat) (l1 : Int) (l2 : Int) (l3 : Int) (l4 : Int) (H : e3_H) (G : e3_G), wM_isLeft_10 Q nl l1 l2 l3 l4 H G → e3_Ev (wB L xs) 0 0 254 10 [(2, 40), (0, l1), (0, l2), (0, l3), (0, l4)] [] H G (e3_q0 Q) := by
  intro nl
  induction nl with
  | zero => intro l1 l2 l3 l4 H G h; exact h.elim
  | succ nn ih =>
    intro l1 l2 l3 l4 H G h
    have h : ((0 : Int) ≤ (e3_w32 (l1 + 1)) ∧ ((e3_w32 (l1 + 1)) : Int) < 41) ∧ (((l4 : Int) < (H 88 (e3_w32 (l1 + 1))) → (((l3 : Int) = 0 → ((0 : Int) ≤ l4 ∧ (l4 : Int) < 33000) ∧ ((((H 92 l4) : Int) = 0 → ((0 : Int) ≤ l4 ∧ (l4 : Int) < 33000) ∧ ((((H 90 l4) : Int) = l2 → (wM_isLeft_48 Q (fun l1 l2 l3 l4 H G => wM_isLeft_10 Q nn l1 l2 l3 l4 H G) l1 l2 l4 H G)) ∧ (¬ (((H 90 l4) : Int) = l2) → (wM_isLeft_52 Q (fun l1 l2 l3 l4 H G => wM_isLeft_10 Q nn l1 l2 l3 l4 H G) l1 l2 l4 H G)))) ∧ (¬ (((H 92 l4) : Int) = 0) → (wM_isLeft_52 Q (fun l1 l2 l3 l4 H G => wM_isLeft_10 Q nn l1 l2 l3 l4 H G) l1 l2 l4 H G)))) ∧ (¬ ((l3 : Int) = 0) → (wM_isLeft_48 Q (fun l1 l2 l3 l4 H G => wM_isLeft_10 Q nn l1 l2 l3 l4 H G) l1 l2 l4 H G)))) ∧ (¬ ((l4 : Int) < (H 88 (e3_w32 (l1 + 1)))) → ((l3 : Int) = 0 ∨ l3 = 1) ∧ Q l3 H G)) := h
    obtain ⟨o1, h⟩ := h
    refine e3_K [0, 0, 4, 0, 0, 0, 2] 20 [(2, 40), (0, l1), (0, l2), (0, l3), (0, l4)] [(0, (H 88 (e3_w32 (l1 + 1)))), (0, l4)] (H) (G) (wZ L xs) (M := tbM254) rfl rfl ⟨trivial, o1, trivial⟩ ?_
    refine e3_br (M := tbM254) rfl rfl rfl Iff.rfl (fun hc => ?_) (fun hc => ?_)
    · replace h := h.1 hc
      refine e3_K [0] 24 [(2, 40), (0, l1), (0, l2), (0, l3), (0, l4)] [(0, l3)] (H) (G) (wZ L xs) (M := tbM254) rfl rfl trivial ?_
      refine e3_br (M := tbM254) rfl rfl rfl Iff.rfl (fun hc => ?_) (fun hc => ?_)
      · replace h := h.1 hc
        obtain ⟨o2, h⟩ := h
        refine e3_K [0, 4, 0, 2] 34 [(2, 40), (0, l1), (0, l2), (0, l3), (0, l4)] [(0, (H 92 l4))] (H) (G) (wZ L xs) (M := tbM254) rfl rfl ⟨trivial, o2, trivial⟩ ?_
        refine e3_br (M := tbM254) rfl rfl rfl Iff.rfl (fun hc => ?_) (fun hc => ?_)
        · replace h := h.1 hc
          obtain ⟨o3, h⟩ := h
          refine e3_K [0, 4, 0, 2, 0] 45 [(2, 40), (0, l1), (0, l2), (0, l3), (0, l4)] [(0, l2), (0, (H 90 l4))] (H) (G) (wZ L xs) (M := tbM254) rfl rfl ⟨trivial, o3, trivial⟩ ?_
          refine e3_br (M := tbM254) rfl rfl rfl Iff.rfl (fun hc => ?_) (fun hc => ?_)
          · replace h := h.1 hc
            refine e3_fgt [true, true, true, false, true] ?_
            exact sM_isLeft_48 L xs Q (fun l1 l2 l3 l4 H G => wM_isLeft_10 Q nn l1 l2 l3 l4 H G) ih _ _ _ _ _ h
          · replace h := h.2 hc
            refine e3_fgt [true, true, true, false, true] ?_
            exact sM_isLeft_52 L xs Q (fun l1 l2 l3 l4 H G => wM_isLeft_10 Q nn l1 l2 l3 l4 H G) ih _ _ _ _ _ h
        · replace h := h.2 hc
          refine e3_fgt [true, true, true, false, true] ?_
          exact sM_isLeft_52 L xs Q (fun l1 l2 l3 l4 H G => wM_isLeft_10 Q nn l1 l2 l3 l4 H G) ih _ _ _ _ _ h
      · replace h := h.2 hc
        refine e3_fgt [true, true, true, false, true] ?_
        exact sM_isLeft_48 L xs Q (fun l1 l2 l3 l4 H G => wM_isLeft_10 Q nn l1 l2 l3 l4 H G) ih _ _ _ _ _ h
    · replace h := h.2 hc
      refine e3_K [0] 61 [(2, 40), (0, l1), (0, l2), (0, l3), (0, l4)] [(0, l3)] (H) (G) (wZ L xs) (M := tbM254) rfl rfl trivial ?_
      exact e3_retb (M := tbM254) rfl rfl rfl h.1 ⟨_, rfl, h.2⟩
set_option maxRecDepth 100000 in
set_option maxHeartbeats 4000000 in
theorem sM_isLeft (L : Nat) (xs : Nat → Int32) (Q : Int → e3_H → e3_G → Prop) (l1 : Int) (l2 : Int) (H : e3_H) (G : e3_G) (h : wM_isLeft Q l1 l2 H G) : e3_Ev (wB L xs) 0 0 254 0 [(2, 40), (0, l1), (0, l2), (3, 0), (3, 0)] [] H G (e3_q0 Q) := by
  unfold wM_isLeft at h
  obtain ⟨o1, h⟩ := h
  refine e3_K [0, 0, 0, 4, 0, 2, 0] 10 [(2, 40), (0, l1), (0, l2), (0, 0), (0, (H 88 l1))] [] (H) (G) (wZ L xs) (M := tbM254) rfl rfl ⟨trivial, o1, trivial⟩ ?_
  obtain ⟨nl, h⟩ := h
  exact sM_isLeft_10 L xs Q nl _ _ _ _ _ _ h
/-- LetterPostModel.oneBranch(IIJZ)V -/
def wM_oneBranch (Q : e3_H → e3_G → Prop) (l1 : Int) (l2 : Int) (l3 : Int) (l5 : Int) (H : e3_H) (G : e3_G) : Prop :=
  ((0 : Int) ≤ (H 40 99) ∧ ((H 40 99) : Int) < 100) ∧ ∀ H1 : e3_H, H1 = e3_up H 120 (H 40 99) l1 → ((0 : Int) ≤ (H1 40 99) ∧ ((H1 40 99) : Int) < 100) ∧ ∀ H3 : e3_H, H3 = e3_up H1 121 (H1 40 99) l2 → ((0 : Int) ≤ (H3 40 99) ∧ ((H3 40 99) : Int) < 100) ∧ ∀ H5 : e3_H, H5 = e3_up H3 122 (H3 40 99) l3 → ((0 : Int) ≤ (H5 40 99) ∧ ((H5 40 99) : Int) < 100) ∧ ∀ H7 : e3_H, H7 = e3_up H5 123 (H5 40 99) (e3_and l5 1) → ∀ H9 : e3_H, H9 = e3_up H7 40 99 (e3_w32 ((H7 40 99) + 1)) → Q H9 G
set_option maxRecDepth 100000 in
set_option maxHeartbeats 4000000 in
theorem sM_oneBranch (L : Nat) (xs : Nat → Int32) (Q : e3_H → e3_G → Prop) (l1 : Int) (l2 : Int) (l3 : Int) (l5 : Int) (H : e3_H) (G : e3_G) (h : wM_oneBranch Q l1 l2 l3 l5 H G) : e3_Ev (wB L xs) 0 0 256 0 [(2, 40), (0, l1), (0, l2), (1, l3), (3, 0), (0, l5)] [] H G (e3_qv Q) := by
  unfold wM_oneBranch at h
  obtain ⟨o2, h⟩ := h
  refine e3_K [0, 4, 0, 2, 0, 2] 10 [(2, 40), (0, l1), (0, l2), (1, l3), (3, 0), (0, l5)] [] (e3_up H 120 (H 40 99) l1) (G) (wZ L xs) (M := tbM256) rfl rfl ⟨trivial, trivial, o2, trivial⟩ ?_
  generalize hH1 : (e3_up H 120 (H 40 99) l1) = H1
  replace h := h H1 hH1.symm
  obtain ⟨o4, h⟩ := h
  refine e3_K [0, 4, 0, 2, 0, 2] 20 [(2, 40), (0, l1), (0, l2), (1, l3), (3, 0), (0, l5)] [] (e3_up H1 121 (H1 40 99) l2) (G) (wZ L xs) (M := tbM256) rfl rfl ⟨trivial, trivial, o4, trivial⟩ ?_
  generalize hH3 : (e3_up H1 121 (H1 40 99) l2) = H3
  replace h := h H3 hH3.symm
  obtain ⟨o6, h⟩ := h
  refine e3_K [0, 4, 0, 2, 0, 2] 30 [(2, 40), (0, l1), (0, l2), (1, l3), (3, 0), (0, l5)] [] (e3_up H3 122 (H3 40 99) l3) (G) (wZ L xs) (M := tbM256) rfl rfl ⟨trivial, trivial, o6, trivial⟩ ?_
  generalize hH5 : (e3_up H3 122 (H3 40 99) l3) = H5
  replace h := h H5 hH5.symm
  obtain ⟨o8, h⟩ := h
  refine e3_K [0, 4, 0, 2, 0, 2] 41 [(2, 40), (0, l1), (0, l2), (1, l3), (3, 0), (0, l5)] [] (e3_up H5 123 (H5 40 99) (e3_and l5 1)) (G) (wZ L xs) (M := tbM256) rfl rfl ⟨trivial, trivial, o8, trivial⟩ ?_
  generalize hH7 : (e3_up H5 123 (H5 40 99) (e3_and l5 1)) = H7
  replace h := h H7 hH7.symm
  refine e3_K [0, 0, 2, 0, 0, 2] 51 [(2, 40), (0, l1), (0, l2), (1, l3), (3, 0), (0, l5)] [] (e3_up H7 40 99 (e3_w32 ((H7 40 99) + 1))) (G) (wZ L xs) (M := tbM256) rfl rfl ⟨trivial, trivial, trivial⟩ ?_
  generalize hH9 : (e3_up H7 40 99 (e3_w32 ((H7 40 99) + 1))) = H9
  replace h := h H9 hH9.symm
  exact e3_retv (M := tbM256) rfl rfl rfl ⟨rfl, h⟩
/-- LetterPostModel.cut(J)V -/
def wM_cut_102 (Q : e3_H → e3_G → Prop) (l1 : Int) (l3 : Int) (H : e3_H) (G : e3_G) : Prop :=
  ((0 : Int) ≤ l3 ∧ (l3 : Int) < 100) ∧ ∀ H1 : e3_H, H1 = e3_up H 124 l3 l1 → ∀ H3 : e3_H, H3 = e3_up H1 40 99 (e3_w32 ((H1 40 99) + 1)) → Q H3 G
def wM_cut_65 (Q : e3_H → e3_G → Prop) : Nat → Int → Int → e3_H → e3_G → Prop
  | 0, _, _, _, _ => False
  | nn + 1, l1, l3, H, G => (((0 : Int) < l3 → ((0 : Int) ≤ (e3_w32 (l3 - 1)) ∧ ((e3_w32 (l3 - 1)) : Int) < 100) ∧ (((l1 : Int) < (H 124 (e3_w32 (l3 - 1))) → ((0 : Int) ≤ (e3_w32 (l3 - 1)) ∧ ((e3_w32 (l3 - 1)) : Int) < 100) ∧ ((0 : Int) ≤ l3 ∧ (l3 : Int) < 100) ∧ ∀ H2 : e3_H, H2 = e3_up H 124 l3 (H 124 (e3_w32 (l3 - 1))) → (wM_cut_65 Q nn l1 (e3_w32 (l3 + (-1))) H2 G)) ∧ (¬ ((l1 : Int) < (H 124 (e3_w32 (l3 - 1)))) → (wM_cut_102 Q l1 l3 H G)))) ∧ (¬ ((0 : Int) < l3) → (wM_cut_102 Q l1 l3 H G)))
def wM_cut_51 (Q : e3_H → e3_G → Prop) (k23 : Int → Int → Int → Int → e3_H → e3_G → Prop) (l1 : Int) (l3 : Int) (l5 : Int) (s0 : Int) (H : e3_H) (G : e3_G) : Prop :=
  (k23 l1 l3 s0 (e3_w32 (l5 + 1)) H G)
def wM_cut_50 (Q : e3_H → e3_G → Prop) (k23 : Int → Int → Int → Int → e3_H → e3_G → Prop) (l1 : Int) (l3 : Int) (l5 : Int) (H : e3_H) (G : e3_G) : Prop :=
  (wM_cut_51 Q k23 l1 l3 l5 0 H G)
def wM_cut_23 (Q : e3_H → e3_G → Prop) : Nat → Int → Int → Int → Int → e3_H → e3_G → Prop
  | 0, _, _, _, _, _, _ => False
  | nn + 1, l1, l3, l4, l5, H, G => (((l5 : Int) < l3 → (((l4 : Int) = 0 → (wM_cut_50 Q (fun l1 l3 l4 l5 H G => wM_cut_23 Q nn l1 l3 l4 l5 H G) l1 l3 l5 H G)) ∧ (¬ ((l4 : Int) = 0) → ((0 : Int) ≤ l5 ∧ (l5 : Int) < 100) ∧ ((((H 124 l5) : Int) = l1 → (wM_cut_50 Q (fun l1 l3 l4 l5 H G => wM_cut_23 Q nn l1 l3 l4 l5 H G) l1 l3 l5 H G)) ∧ (¬ (((H 124 l5) : Int) = l1) → (wM_cut_51 Q (fun l1 l3 l4 l5 H G => wM_cut_23 Q nn l1 l3 l4 l5 H G) l1 l3 l5 1 H G)))))) ∧ (¬ ((l5 : Int) < l3) → (((l4 : Int) = 0 → Q H G) ∧ (¬ ((l4 : Int) = 0) → (∃ n, wM_cut_65 Q n l1 l3 H G)))))
def wM_cut_18 (Q : e3_H → e3_G → Prop) (l1 : Int) (l3 : Int) (s0 : Int) (H : e3_H) (G : e3_G) : Prop :=
  (∃ n, wM_cut_23 Q n l1 l3 s0 0 H G)
def wM_cut (Q : e3_H → e3_G → Prop) (l1 : Int) (H : e3_H) (G : e3_G) : Prop :=
  (((((-2147483648 : Int64).toInt) : Int) < l1 → (wM_cut_18 Q l1 (H 40 99) 1 H G)) ∧ (¬ ((((-2147483648 : Int64).toInt) : Int) < l1) → (wM_cut_18 Q l1 (H 40 99) 0 H G)))
set_option maxRecDepth 100000 in
set_option maxHeartbeats 4000000 in
theorem sM_cut_102 (L : Nat) (xs : Nat → Int32) (Q : e3_H → e3_G → Prop) (l1 : Int) (l3 : Int) (H : e3_H) (G : e3_G) (h : wM_cut_102 Q l1 l3 H G) : e3_Ev (wB L xs) 0 0 257 102 [(2, 40), (1, l1), (3, 0), (0, l3), (3, 0), (3, 0)] [] H G (e3_qv Q) := by
  unfold wM_cut_102 at h
  obtain ⟨o2, h⟩ := h
  refine e3_K [0, 4, 0, 0, 2] 109 [(2, 40), (1, l1), (3, 0), (0, l3), (3, 0), (3, 0)] [] (e3_up H 124 l3 l1) (G) (wZ L xs) (M := tbM257) rfl rfl ⟨trivial, o2, trivial⟩ ?_
  generalize hH1 : (e3_up H 124 l3 l1) = H1
  replace h := h H1 hH1.symm
  refine e3_K [0, 0, 2, 0, 0, 2] 119 [(2, 40), (1, l1), (3, 0), (0, l3), (3, 0), (3, 0)] [] (e3_up H1 40 99 (e3_w32 ((H1 40 99) + 1))) (G) (wZ L xs) (M := tbM257) rfl rfl ⟨trivial, trivial, trivial⟩ ?_
  generalize hH3 : (e3_up H1 40 99 (e3_w32 ((H1 40 99) + 1))) = H3
  replace h := h H3 hH3.symm
  exact e3_retv (M := tbM257) rfl rfl rfl ⟨rfl, h⟩
set_option maxRecDepth 100000 in
set_option maxHeartbeats 4000000 in
theorem sM_cut_65 (L : Nat) (xs : Nat → Int32) (Q : e3_H → e3_G → Prop) : ∀ (nl : Nat) (l1 : Int) (l3 : Int) (H : e3_H) (G : e3_G), wM_cut_65 Q nl l1 l3 H G → e3_Ev (wB L xs) 0 0 257 65 [(2, 40), (1, l1), (3, 0), (0, l3), (3, 0), (3, 0)] [] H G (e3_qv Q) := by
  intro nl
  induction nl with
  | zero => intro l1 l3 H G h; exact h.elim
  | succ nn ih =>
    intro l1 l3 H G h
    have h : (((0 : Int) < l3 → ((0 : Int) ≤ (e3_w32 (l3 - 1)) ∧ ((e3_w32 (l3 - 1)) : Int) < 100) ∧ (((l1 : Int) < (H 124 (e3_w32 (l3 - 1))) → ((0 : Int) ≤ (e3_w32 (l3 - 1)) ∧ ((e3_w32 (l3 - 1)) : Int) < 100) ∧ ((0 : Int) ≤ l3 ∧ (l3 : Int) < 100) ∧ ∀ H2 : e3_H, H2 = e3_up H 124 l3 (H 124 (e3_w32 (l3 - 1))) → (wM_cut_65 Q nn l1 (e3_w32 (l3 + (-1))) H2 G)) ∧ (¬ ((l1 : Int) < (H 124 (e3_w32 (l3 - 1)))) → (wM_cut_102 Q l1 l3 H G)))) ∧ (¬ ((0 : Int) < l3) → (wM_cut_102 Q l1 l3 H G))) := h
    refine e3_K [0] 66 [(2, 40), (1, l1), (3, 0), (0, l3), (3, 0), (3, 0)] [(0, l3)] (H) (G) (wZ L xs) (M := tbM257) rfl rfl trivial ?_
    refine e3_br (M := tbM257) rfl rfl rfl Iff.rfl (fun hc => ?_) (fun hc => ?_)
    · replace h := h.1 hc
      obtain ⟨o1, h⟩ := h
      refine e3_K [0, 4, 0, 0, 0, 2, 0, 0] 79 [(2, 40), (1, l1), (3, 0), (0, l3), (3, 0), (3, 0)] [(0, (e3_cmp (H 124 (e3_w32 (l3 - 1))) l1))] (H) (G) (wZ L xs) (M := tbM257) rfl rfl ⟨trivial, o1, trivial⟩ ?_
      refine e3_br (M := tbM257) rfl rfl rfl e3_cmp_gt (fun hc => ?_) (fun hc => ?_)
      · replace h := h.1 hc
        obtain ⟨o3, o4, h⟩ := h
        refine e3_K [0, 4, 0, 0, 4, 0, 0, 0, 2, 2] 96 [(2, 40), (1, l1), (3, 0), (0, l3), (3, 0), (3, 0)] [] (e3_up H 124 l3 (H 124 (e3_w32 (l3 - 1)))) (G) (wZ L xs) (M := tbM257) rfl rfl ⟨trivial, trivial, o3, o4, trivial⟩ ?_
        generalize hH2 : (e3_up H 124 l3 (H 124 (e3_w32 (l3 - 1)))) = H2
        replace h := h H2 hH2.symm
        refine e3_K [0, 0] 65 [(2, 40), (1, l1), (3, 0), (0, (e3_w32 (l3 + (-1)))), (3, 0), (3, 0)] [] (H2) (G) (wZ L xs) (M := tbM257) rfl rfl trivial ?_
        exact ih _ _ _ _ h
      · replace h := h.2 hc
        exact sM_cut_102 L xs Q _ _ _ _ h
    · replace h := h.2 hc
      exact sM_cut_102 L xs Q _ _ _ _ h
set_option maxRecDepth 100000 in
set_option maxHeartbeats 4000000 in
theorem sM_cut_51 (L : Nat) (xs : Nat → Int32) (Q : e3_H → e3_G → Prop) (k23 : Int → Int → Int → Int → e3_H → e3_G → Prop) (hk23 : ∀ (l1 : Int) (l3 : Int) (l4 : Int) (l5 : Int) (H : e3_H) (G : e3_G), k23 l1 l3 l4 l5 H G → e3_Ev (wB L xs) 0 0 257 23 [(2, 40), (1, l1), (3, 0), (0, l3), (0, l4), (0, l5)] [] H G (e3_qv Q)) (l1 : Int) (l3 : Int) (l5 : Int) (s0 : Int) (H : e3_H) (G : e3_G) (h : wM_cut_51 Q k23 l1 l3 l5 s0 H G) : e3_Ev (wB L xs) 0 0 257 51 [(2, 40), (1, l1), (3, 0), (0, l3), (3, 0), (0, l5)] [(0, s0)] H G (e3_qv Q) := by
  unfold wM_cut_51 at h
  refine e3_K [0, 0, 0] 23 [(2, 40), (1, l1), (3, 0), (0, l3), (0, s0), (0, (e3_w32 (l5 + 1)))] [] (H) (G) (wZ L xs) (M := tbM257) rfl rfl trivial ?_
  exact hk23 _ _ _ _ _ _ h
set_option maxRecDepth 100000 in
set_option maxHeartbeats 4000000 in
theorem sM_cut_50 (L : Nat) (xs : Nat → Int32) (Q : e3_H → e3_G → Prop) (k23 : Int → Int → Int → Int → e3_H → e3_G → Prop) (hk23 : ∀ (l1 : Int) (l3 : Int) (l4 : Int) (l5 : Int) (H : e3_H) (G : e3_G), k23 l1 l3 l4 l5 H G → e3_Ev (wB L xs) 0 0 257 23 [(2, 40), (1, l1), (3, 0), (0, l3), (0, l4), (0, l5)] [] H G (e3_qv Q)) (l1 : Int) (l3 : Int) (l5 : Int) (H : e3_H) (G : e3_G) (h : wM_cut_50 Q k23 l1 l3 l5 H G) : e3_Ev (wB L xs) 0 0 257 50 [(2, 40), (1, l1), (3, 0), (0, l3), (3, 0), (0, l5)] [] H G (e3_qv Q) := by
  unfold wM_cut_50 at h
  refine e3_K [0] 51 [(2, 40), (1, l1), (3, 0), (0, l3), (3, 0), (0, l5)] [(0, 0)] (H) (G) (wZ L xs) (M := tbM257) rfl rfl trivial ?_
  exact sM_cut_51 L xs Q k23 hk23 _ _ _ _ _ _ h
set_option maxRecDepth 100000 in
set_option maxHeartbeats 4000000 in
theorem sM_cut_23 (L : Nat) (xs : Nat → Int32) (Q : e3_H → e3_G → Prop) : ∀ (nl : Nat) (l1 : Int) (l3 : Int) (l4 : Int) (l5 : Int) (H : e3_H) (G : e3_G), wM_cut_23 Q nl l1 l3 l4 l5 H G → e3_Ev (wB L xs) 0 0 257 23 [(2, 40), (1, l1), (3, 0), (0, l3), (0, l4), (0, l5)] [] H G (e3_qv Q) := by
  intro nl
  induction nl with
  | zero => intro l1 l3 l4 l5 H G h; exact h.elim
  | succ nn ih =>
    intro l1 l3 l4 l5 H G h
    have h : (((l5 : Int) < l3 → (((l4 : Int) = 0 → (wM_cut_50 Q (fun l1 l3 l4 l5 H G => wM_cut_23 Q nn l1 l3 l4 l5 H G) l1 l3 l5 H G)) ∧ (¬ ((l4 : Int) = 0) → ((0 : Int) ≤ l5 ∧ (l5 : Int) < 100) ∧ ((((H 124 l5) : Int) = l1 → (wM_cut_50 Q (fun l1 l3 l4 l5 H G => wM_cut_23 Q nn l1 l3 l4 l5 H G) l1 l3 l5 H G)) ∧ (¬ (((H 124 l5) : Int) = l1) → (wM_cut_51 Q (fun l1 l3 l4 l5 H G => wM_cut_23 Q nn l1 l3 l4 l5 H G) l1 l3 l5 1 H G)))))) ∧ (¬ ((l5 : Int) < l3) → (((l4 : Int) = 0 → Q H G) ∧ (¬ ((l4 : Int) = 0) → (∃ n, wM_cut_65 Q n l1 l3 H G))))) := h
    refine e3_K [0, 0] 26 [(2, 40), (1, l1), (3, 0), (0, l3), (0, l4), (0, l5)] [(0, l3), (0, l5)] (H) (G) (wZ L xs) (M := tbM257) rfl rfl trivial ?_
    refine e3_br (M := tbM257) rfl rfl rfl Iff.rfl (fun hc => ?_) (fun hc => ?_)
    · replace h := h.1 hc
      refine e3_K [0] 31 [(2, 40), (1, l1), (3, 0), (0, l3), (0, l4), (0, l5)] [(0, l4)] (H) (G) (wZ L xs) (M := tbM257) rfl rfl trivial ?_
      refine e3_br (M := tbM257) rfl rfl rfl Iff.rfl (fun hc => ?_) (fun hc => ?_)
      · replace h := h.1 hc
        refine e3_fgt [true, true, false, true, false, true] ?_
        exact sM_cut_50 L xs Q (fun l1 l3 l4 l5 H G => wM_cut_23 Q nn l1 l3 l4 l5 H G) ih _ _ _ _ _ h
      · replace h := h.2 hc
        obtain ⟨o1, h⟩ := h
        refine e3_K [0, 4, 0, 2, 0, 0] 43 [(2, 40), (1, l1), (3, 0), (0, l3), (0, l4), (0, l5)] [(0, (e3_cmp (H 124 l5) l1))] (H) (G) (wZ L xs) (M := tbM257) rfl rfl ⟨trivial, o1, trivial⟩ ?_
        refine e3_br (M := tbM257) rfl rfl rfl e3_cmp_eq (fun hc => ?_) (fun hc => ?_)
        · replace h := h.1 hc
          refine e3_fgt [true, true, false, true, false, true] ?_
          exact sM_cut_50 L xs Q (fun l1 l3 l4 l5 H G => wM_cut_23 Q nn l1 l3 l4 l5 H G) ih _ _ _ _ _ h
        · replace h := h.2 hc
          refine e3_K [0, 0] 51 [(2, 40), (1, l1), (3, 0), (0, l3), (0, l4), (0, l5)] [(0, 1)] (H) (G) (wZ L xs) (M := tbM257) rfl rfl trivial ?_
          refine e3_fgt [true, true, false, true, false, true] ?_
          exact sM_cut_51 L xs Q (fun l1 l3 l4 l5 H G => wM_cut_23 Q nn l1 l3 l4 l5 H G) ih _ _ _ _ _ _ h
    · replace h := h.2 hc
      refine e3_K [0] 61 [(2, 40), (1, l1), (3, 0), (0, l3), (0, l4), (0, l5)] [(0, l4)] (H) (G) (wZ L xs) (M := tbM257) rfl rfl trivial ?_
      refine e3_br (M := tbM257) rfl rfl rfl Iff.rfl (fun hc => ?_) (fun hc => ?_)
      · replace h := h.1 hc
        exact e3_retv (M := tbM257) rfl rfl rfl ⟨rfl, h⟩
      · replace h := h.2 hc
        refine e3_fgt [true, true, false, true, false, false] ?_
        obtain ⟨nl, h⟩ := h
        exact sM_cut_65 L xs Q nl _ _ _ _ h
set_option maxRecDepth 100000 in
set_option maxHeartbeats 4000000 in
theorem sM_cut_18 (L : Nat) (xs : Nat → Int32) (Q : e3_H → e3_G → Prop) (l1 : Int) (l3 : Int) (s0 : Int) (H : e3_H) (G : e3_G) (h : wM_cut_18 Q l1 l3 s0 H G) : e3_Ev (wB L xs) 0 0 257 18 [(2, 40), (1, l1), (3, 0), (0, l3), (3, 0), (3, 0)] [(0, s0)] H G (e3_qv Q) := by
  unfold wM_cut_18 at h
  refine e3_K [0, 0, 0] 23 [(2, 40), (1, l1), (3, 0), (0, l3), (0, s0), (0, 0)] [] (H) (G) (wZ L xs) (M := tbM257) rfl rfl trivial ?_
  obtain ⟨nl, h⟩ := h
  exact sM_cut_23 L xs Q nl _ _ _ _ _ _ h
set_option maxRecDepth 100000 in
set_option maxHeartbeats 4000000 in
theorem sM_cut (L : Nat) (xs : Nat → Int32) (Q : e3_H → e3_G → Prop) (l1 : Int) (H : e3_H) (G : e3_G) (h : wM_cut Q l1 H G) : e3_Ev (wB L xs) 0 0 257 0 [(2, 40), (1, l1), (3, 0), (3, 0), (3, 0), (3, 0)] [] H G (e3_qv Q) := by
  unfold wM_cut at h
  refine e3_K [0, 2, 0, 0, 2, 0] 10 [(2, 40), (1, l1), (3, 0), (0, (H 40 99)), (3, 0), (3, 0)] [(0, (e3_cmp l1 ((-2147483648 : Int64).toInt)))] (H) (G) (wZ L xs) (M := tbM257) rfl rfl ⟨trivial, trivial, trivial⟩ ?_
  refine e3_br (M := tbM257) rfl rfl rfl e3_cmp_gt (fun hc => ?_) (fun hc => ?_)
  · replace h := h.1 hc
    refine e3_K [0, 0] 18 [(2, 40), (1, l1), (3, 0), (0, (H 40 99)), (3, 0), (3, 0)] [(0, 1)] (H) (G) (wZ L xs) (M := tbM257) rfl rfl trivial ?_
    exact sM_cut_18 L xs Q _ _ _ _ _ h
  · replace h := h.2 hc
    refine e3_K [0] 18 [(2, 40), (1, l1), (3, 0), (0, (H 40 99)), (3, 0), (3, 0)] [(0, 0)] (H) (G) (wZ L xs) (M := tbM257) rfl rfl trivial ?_
    exact sM_cut_18 L xs Q _ _ _ _ _ h
/-- LetterPostModel.wants(J)V -/
def wM_wants_54 (Q : e3_H → e3_G → Prop)  (H : e3_H) (G : e3_G) : Prop :=
  Q H G
def wM_wants_35 (Q : e3_H → e3_G → Prop) (k5 : Int → Int → Int → e3_H → e3_G → Prop) (l1 : Int) (l4 : Int) (s0 : Int) (H : e3_H) (G : e3_G) : Prop :=
  (k5 l1 s0 (e3_w32 (l4 + 1)) H G)
def wM_wants_30 (Q : e3_H → e3_G → Prop) (k5 : Int → Int → Int → e3_H → e3_G → Prop) (l1 : Int) (l4 : Int) (H : e3_H) (G : e3_G) : Prop :=
  (wM_wants_35 Q k5 l1 l4 1 H G)
def wM_wants_5 (Q : e3_H → e3_G → Prop) : Nat → Int → Int → Int → e3_H → e3_G → Prop
  | 0, _, _, _, _, _ => False
  | nn + 1, l1, l3, l4, H, G => (((l4 : Int) < (H 40 99) → (((l3 : Int) = 0 → ((0 : Int) ≤ l4 ∧ (l4 : Int) < 100) ∧ ((((H 122 l4) : Int) = l1 → (wM_wants_30 Q (fun l1 l3 l4 H G => wM_wants_5 Q nn l1 l3 l4 H G) l1 l4 H G)) ∧ (¬ (((H 122 l4) : Int) = l1) → (wM_wants_35 Q (fun l1 l3 l4 H G => wM_wants_5 Q nn l1 l3 l4 H G) l1 l4 0 H G)))) ∧ (¬ ((l3 : Int) = 0) → (wM_wants_30 Q (fun l1 l3 l4 H G => wM_wants_5 Q nn l1 l3 l4 H G) l1 l4 H G)))) ∧ (¬ ((l4 : Int) < (H 40 99)) → (((l3 : Int) = 0 → (wM_oneBranch (fun H2 G3 => (wM_wants_54 Q H2 G3)) 0 0 l1 0 H G)) ∧ (¬ ((l3 : Int) = 0) → (wM_wants_54 Q H G)))))
def wM_wants (Q : e3_H → e3_G → Prop) (l1 : Int) (H : e3_H) (G : e3_G) : Prop :=
  (∃ n, wM_wants_5 Q n l1 0 0 H G)
set_option maxRecDepth 100000 in
set_option maxHeartbeats 4000000 in
theorem sM_wants_54 (L : Nat) (xs : Nat → Int32) (Q : e3_H → e3_G → Prop)  (H : e3_H) (G : e3_G) (h : wM_wants_54 Q  H G) : e3_Ev (wB L xs) 1 25 258 54 [(3, 0), (3, 0), (3, 0), (3, 0), (3, 0)] [] H G (e3_qv Q) := by
  unfold wM_wants_54 at h
  exact e3_retv (M := tbM258) rfl rfl rfl ⟨rfl, h⟩
set_option maxRecDepth 100000 in
set_option maxHeartbeats 4000000 in
theorem sM_wants_35 (L : Nat) (xs : Nat → Int32) (Q : e3_H → e3_G → Prop) (k5 : Int → Int → Int → e3_H → e3_G → Prop) (hk5 : ∀ (l1 : Int) (l3 : Int) (l4 : Int) (H : e3_H) (G : e3_G), k5 l1 l3 l4 H G → e3_Ev (wB L xs) 1 25 258 5 [(2, 40), (1, l1), (3, 0), (0, l3), (0, l4)] [] H G (e3_qv Q)) (l1 : Int) (l4 : Int) (s0 : Int) (H : e3_H) (G : e3_G) (h : wM_wants_35 Q k5 l1 l4 s0 H G) : e3_Ev (wB L xs) 1 25 258 35 [(2, 40), (1, l1), (3, 0), (3, 0), (0, l4)] [(0, s0)] H G (e3_qv Q) := by
  unfold wM_wants_35 at h
  refine e3_K [0, 0, 0] 5 [(2, 40), (1, l1), (3, 0), (0, s0), (0, (e3_w32 (l4 + 1)))] [] (H) (G) (wZ L xs) (M := tbM258) rfl rfl trivial ?_
  exact hk5 _ _ _ _ _ h
set_option maxRecDepth 100000 in
set_option maxHeartbeats 4000000 in
theorem sM_wants_30 (L : Nat) (xs : Nat → Int32) (Q : e3_H → e3_G → Prop) (k5 : Int → Int → Int → e3_H → e3_G → Prop) (hk5 : ∀ (l1 : Int) (l3 : Int) (l4 : Int) (H : e3_H) (G : e3_G), k5 l1 l3 l4 H G → e3_Ev (wB L xs) 1 25 258 5 [(2, 40), (1, l1), (3, 0), (0, l3), (0, l4)] [] H G (e3_qv Q)) (l1 : Int) (l4 : Int) (H : e3_H) (G : e3_G) (h : wM_wants_30 Q k5 l1 l4 H G) : e3_Ev (wB L xs) 1 25 258 30 [(2, 40), (1, l1), (3, 0), (3, 0), (0, l4)] [] H G (e3_qv Q) := by
  unfold wM_wants_30 at h
  refine e3_K [0, 0] 35 [(2, 40), (1, l1), (3, 0), (3, 0), (0, l4)] [(0, 1)] (H) (G) (wZ L xs) (M := tbM258) rfl rfl trivial ?_
  exact sM_wants_35 L xs Q k5 hk5 _ _ _ _ _ h
set_option maxRecDepth 100000 in
set_option maxHeartbeats 4000000 in
theorem sM_wants_5 (L : Nat) (xs : Nat → Int32) (Q : e3_H → e3_G → Prop) : ∀ (nl : Nat) (l1 : Int) (l3 : Int) (l4 : Int) (H : e3_H) (G : e3_G), wM_wants_5 Q nl l1 l3 l4 H G → e3_Ev (wB L xs) 1 25 258 5 [(2, 40), (1, l1), (3, 0), (0, l3), (0, l4)] [] H G (e3_qv Q) := by
  intro nl
  induction nl with
  | zero => intro l1 l3 l4 H G h; exact h.elim
  | succ nn ih =>
    intro l1 l3 l4 H G h
    have h : (((l4 : Int) < (H 40 99) → (((l3 : Int) = 0 → ((0 : Int) ≤ l4 ∧ (l4 : Int) < 100) ∧ ((((H 122 l4) : Int) = l1 → (wM_wants_30 Q (fun l1 l3 l4 H G => wM_wants_5 Q nn l1 l3 l4 H G) l1 l4 H G)) ∧ (¬ (((H 122 l4) : Int) = l1) → (wM_wants_35 Q (fun l1 l3 l4 H G => wM_wants_5 Q nn l1 l3 l4 H G) l1 l4 0 H G)))) ∧ (¬ ((l3 : Int) = 0) → (wM_wants_30 Q (fun l1 l3 l4 H G => wM_wants_5 Q nn l1 l3 l4 H G) l1 l4 H G)))) ∧ (¬ ((l4 : Int) < (H 40 99)) → (((l3 : Int) = 0 → (wM_oneBranch (fun H2 G3 => (wM_wants_54 Q H2 G3)) 0 0 l1 0 H G)) ∧ (¬ ((l3 : Int) = 0) → (wM_wants_54 Q H G))))) := h
    refine e3_K [0, 0, 2] 11 [(2, 40), (1, l1), (3, 0), (0, l3), (0, l4)] [(0, (H 40 99)), (0, l4)] (H) (G) (wZ L xs) (M := tbM258) rfl rfl ⟨trivial, trivial⟩ ?_
    refine e3_br (M := tbM258) rfl rfl rfl Iff.rfl (fun hc => ?_) (fun hc => ?_)
    · replace h := h.1 hc
      refine e3_K [0] 15 [(2, 40), (1, l1), (3, 0), (0, l3), (0, l4)] [(0, l3)] (H) (G) (wZ L xs) (M := tbM258) rfl rfl trivial ?_
      refine e3_br (M := tbM258) rfl rfl rfl Iff.rfl (fun hc => ?_) (fun hc => ?_)
      · replace h := h.1 hc
        obtain ⟨o1, h⟩ := h
        refine e3_K [0, 4, 0, 2, 0, 0] 27 [(2, 40), (1, l1), (3, 0), (0, l3), (0, l4)] [(0, (e3_cmp (H 122 l4) l1))] (H) (G) (wZ L xs) (M := tbM258) rfl rfl ⟨trivial, o1, trivial⟩ ?_
        refine e3_br (M := tbM258) rfl rfl rfl e3_cmp_eq (fun hc => ?_) (fun hc => ?_)
        · replace h := h.1 hc
          refine e3_fgt [true, true, false, false, true] ?_
          exact sM_wants_30 L xs Q (fun l1 l3 l4 H G => wM_wants_5 Q nn l1 l3 l4 H G) ih _ _ _ _ h
        · replace h := h.2 hc
          refine e3_K [0] 35 [(2, 40), (1, l1), (3, 0), (0, l3), (0, l4)] [(0, 0)] (H) (G) (wZ L xs) (M := tbM258) rfl rfl trivial ?_
          refine e3_fgt [true, true, false, false, true] ?_
          exact sM_wants_35 L xs Q (fun l1 l3 l4 H G => wM_wants_5 Q nn l1 l3 l4 H G) ih _ _ _ _ _ h
      · replace h := h.2 hc
        refine e3_fgt [true, true, false, false, true] ?_
        exact sM_wants_30 L xs Q (fun l1 l3 l4 H G => wM_wants_5 Q nn l1 l3 l4 H G) ih _ _ _ _ h
    · replace h := h.2 hc
      refine e3_K [0] 43 [(2, 40), (1, l1), (3, 0), (0, l3), (0, l4)] [(0, l3)] (H) (G) (wZ L xs) (M := tbM258) rfl rfl trivial ?_
      refine e3_br (M := tbM258) rfl rfl rfl Iff.rfl (fun hc => ?_) (fun hc => ?_)
      · replace h := h.1 hc
        refine e3_K [0, 0, 0, 0, 0] 51 [(2, 40), (1, l1), (3, 0), (0, l3), (0, l4)] [(0, 0), (1, l1), (0, 0), (0, 0), (2, 40)] (H) (G) (wZ L xs) (M := tbM258) rfl rfl trivial ?_
        refine e3_call (o := 0) (k := 256) (M2 := tbM256) (f1 := 0) (w1 := 0) (as := [(2, 40), (0, 0), (0, 0), (1, l1), (0, 0)]) (rest := []) (M := tbM258) rfl rfl rfl trivial (Nat.le_of_ble_eq_true rfl) (Nat.le_of_ble_eq_true rfl) (Nat.le_of_ble_eq_true rfl) ?_
        refine e3_mono (sM_oneBranch L xs _ _ _ _ _ _ _ h) (fun r H2 G3 h => ?_)
        obtain ⟨rfl, h⟩ := h
        change e3_Ev _ _ _ _ 54 [(2, 40), (1, l1), (3, 0), (0, l3), (0, l4)] [] H2 G3 _
        refine e3_fgt [false, false, false, false, false] ?_
        exact sM_wants_54 L xs Q _ _ h
      · replace h := h.2 hc
        refine e3_fgt [false, false, false, false, false] ?_
        exact sM_wants_54 L xs Q _ _ h
set_option maxRecDepth 100000 in
set_option maxHeartbeats 4000000 in
theorem sM_wants (L : Nat) (xs : Nat → Int32) (Q : e3_H → e3_G → Prop) (l1 : Int) (H : e3_H) (G : e3_G) (h : wM_wants Q l1 H G) : e3_Ev (wB L xs) 1 25 258 0 [(2, 40), (1, l1), (3, 0), (3, 0), (3, 0)] [] H G (e3_qv Q) := by
  unfold wM_wants at h
  refine e3_K [0, 0, 0, 0] 5 [(2, 40), (1, l1), (3, 0), (0, 0), (0, 0)] [] (H) (G) (wZ L xs) (M := tbM258) rfl rfl trivial ?_
  obtain ⟨nl, h⟩ := h
  exact sM_wants_5 L xs Q nl _ _ _ _ _ h
/-- LetterPostModel.parts()V -/
def wM_parts_42 (Q : e3_H → e3_G → Prop) (k17 : Int → Int → Int → e3_H → e3_G → Prop) (l1 : Int) (l2 : Int) (l4 : Int) (s0 : Int) (H : e3_H) (G : e3_G) : Prop :=
  (wM_oneBranch (fun H1 G2 => (k17 l1 s0 (e3_w32 (l4 + 1)) H1 G2)) (e3_w32 l2) (e3_w32 (e3_w64 (s0 - 1))) 0 0 H G)
def wM_parts_17 (Q : e3_H → e3_G → Prop) : Nat → Int → Int → Int → e3_H → e3_G → Prop
  | 0, _, _, _, _, _ => False
  | nn + 1, l1, l2, l4, H, G => (((l1 : Int) < l4 → Q H G) ∧ (¬ ((l1 : Int) < l4) → (((l4 : Int) < l1 → ((0 : Int) ≤ l4 ∧ (l4 : Int) < 100) ∧ (wM_parts_42 Q (fun l1 l2 l4 H G => wM_parts_17 Q nn l1 l2 l4 H G) l1 l2 l4 (H 124 l4) H G)) ∧ (¬ ((l4 : Int) < l1) → (wM_parts_42 Q (fun l1 l2 l4 H G => wM_parts_17 Q nn l1 l2 l4 H G) l1 l2 l4 2147483648 H G)))))
def wM_parts (Q : e3_H → e3_G → Prop)  (H : e3_H) (G : e3_G) : Prop :=
  ∀ H1 : e3_H, H1 = e3_up H 40 99 0 → (∃ n, wM_parts_17 Q n (H 40 99) ((-2147483648 : Int64).toInt) 0 H1 G)
set_option maxRecDepth 100000 in
set_option maxHeartbeats 4000000 in
theorem sM_parts_42 (L : Nat) (xs : Nat → Int32) (Q : e3_H → e3_G → Prop) (k17 : Int → Int → Int → e3_H → e3_G → Prop) (hk17 : ∀ (l1 : Int) (l2 : Int) (l4 : Int) (H : e3_H) (G : e3_G), k17 l1 l2 l4 H G → e3_Ev (wB L xs) 1 25 259 17 [(2, 40), (0, l1), (1, l2), (3, 0), (0, l4), (3, 0), (3, 0)] [] H G (e3_qv Q)) (l1 : Int) (l2 : Int) (l4 : Int) (s0 : Int) (H : e3_H) (G : e3_G) (h : wM_parts_42 Q k17 l1 l2 l4 s0 H G) : e3_Ev (wB L xs) 1 25 259 42 [(2, 40), (0, l1), (1, l2), (3, 0), (0, l4), (3, 0), (3, 0)] [(1, s0)] H G (e3_qv Q) := by
  unfold wM_parts_42 at h
  refine e3_K [0, 0, 0, 0, 0, 0, 0, 0, 0, 0] 54 [(2, 40), (0, l1), (1, l2), (3, 0), (0, l4), (1, s0), (3, 0)] [(0, 0), (1, 0), (0, (e3_w32 (e3_w64 (s0 - 1)))), (0, (e3_w32 l2)), (2, 40)] (H) (G) (wZ L xs) (M := tbM259) rfl rfl trivial ?_
  refine e3_call (o := 0) (k := 256) (M2 := tbM256) (f1 := 0) (w1 := 0) (as := [(2, 40), (0, (e3_w32 l2)), (0, (e3_w32 (e3_w64 (s0 - 1)))), (1, 0), (0, 0)]) (rest := []) (M := tbM259) rfl rfl rfl trivial (Nat.le_of_ble_eq_true rfl) (Nat.le_of_ble_eq_true rfl) (Nat.le_of_ble_eq_true rfl) ?_
  refine e3_mono (sM_oneBranch L xs _ _ _ _ _ _ _ h) (fun r H1 G2 h => ?_)
  obtain ⟨rfl, h⟩ := h
  change e3_Ev _ _ _ _ 57 [(2, 40), (0, l1), (1, l2), (3, 0), (0, l4), (1, s0), (3, 0)] [] H1 G2 _
  refine e3_K [0, 0, 0, 0] 17 [(2, 40), (0, l1), (1, s0), (3, 0), (0, (e3_w32 (l4 + 1))), (1, s0), (3, 0)] [] (H1) (G2) (wZ L xs) (M := tbM259) rfl rfl trivial ?_
  refine e3_fgt [true, true, true, false, true, false, false] ?_
  exact hk17 _ _ _ _ _ h
set_option maxRecDepth 100000 in
set_option maxHeartbeats 4000000 in
theorem sM_parts_17 (L : Nat) (xs : Nat → Int32) (Q : e3_H → e3_G → Prop) : ∀ (nl : Nat) (l1 : Int) (l2 : Int) (l4 : Int) (H : e3_H) (G : e3_G), wM_parts_17 Q nl l1 l2 l4 H G → e3_Ev (wB L xs) 1 25 259 17 [(2, 40), (0, l1), (1, l2), (3, 0), (0, l4), (3, 0), (3, 0)] [] H G (e3_qv Q) := by
  intro nl
  induction nl with
  | zero => intro l1 l2 l4 H G h; exact h.elim
  | succ nn ih =>
    intro l1 l2 l4 H G h
    have h : (((l1 : Int) < l4 → Q H G) ∧ (¬ ((l1 : Int) < l4) → (((l4 : Int) < l1 → ((0 : Int) ≤ l4 ∧ (l4 : Int) < 100) ∧ (wM_parts_42 Q (fun l1 l2 l4 H G => wM_parts_17 Q nn l1 l2 l4 H G) l1 l2 l4 (H 124 l4) H G)) ∧ (¬ ((l4 : Int) < l1) → (wM_parts_42 Q (fun l1 l2 l4 H G => wM_parts_17 Q nn l1 l2 l4 H G) l1 l2 l4 2147483648 H G))))) := h
    refine e3_K [0, 0] 20 [(2, 40), (0, l1), (1, l2), (3, 0), (0, l4), (3, 0), (3, 0)] [(0, l1), (0, l4)] (H) (G) (wZ L xs) (M := tbM259) rfl rfl trivial ?_
    refine e3_br (M := tbM259) rfl rfl rfl Iff.rfl (fun hc => ?_) (fun hc => ?_)
    · replace h := h.1 hc
      exact e3_retv (M := tbM259) rfl rfl rfl ⟨rfl, h⟩
    · replace h := h.2 hc
      refine e3_K [0, 0] 26 [(2, 40), (0, l1), (1, l2), (3, 0), (0, l4), (3, 0), (3, 0)] [(0, l1), (0, l4)] (H) (G) (wZ L xs) (M := tbM259) rfl rfl trivial ?_
      refine e3_br (M := tbM259) rfl rfl rfl Iff.rfl (fun hc => ?_) (fun hc => ?_)
      · replace h := h.1 hc
        obtain ⟨o1, h⟩ := h
        refine e3_K [0, 4, 0, 2, 0] 42 [(2, 40), (0, l1), (1, l2), (3, 0), (0, l4), (3, 0), (3, 0)] [(1, (H 124 l4))] (H) (G) (wZ L xs) (M := tbM259) rfl rfl ⟨trivial, o1, trivial⟩ ?_
        exact sM_parts_42 L xs Q (fun l1 l2 l4 H G => wM_parts_17 Q nn l1 l2 l4 H G) ih _ _ _ _ _ _ h
      · replace h := h.2 hc
        refine e3_K [2] 42 [(2, 40), (0, l1), (1, l2), (3, 0), (0, l4), (3, 0), (3, 0)] [(1, 2147483648)] (H) (G) (wZ L xs) (M := tbM259) rfl rfl ⟨trivial, trivial⟩ ?_
        exact sM_parts_42 L xs Q (fun l1 l2 l4 H G => wM_parts_17 Q nn l1 l2 l4 H G) ih _ _ _ _ _ _ h
set_option maxRecDepth 100000 in
set_option maxHeartbeats 4000000 in
theorem sM_parts (L : Nat) (xs : Nat → Int32) (Q : e3_H → e3_G → Prop)  (H : e3_H) (G : e3_G) (h : wM_parts Q  H G) : e3_Ev (wB L xs) 1 25 259 0 [(2, 40), (3, 0), (3, 0), (3, 0), (3, 0), (3, 0), (3, 0)] [] H G (e3_qv Q) := by
  unfold wM_parts at h
  refine e3_K [0, 2, 0, 0, 0, 2] 10 [(2, 40), (0, (H 40 99)), (3, 0), (3, 0), (3, 0), (3, 0), (3, 0)] [] (e3_up H 40 99 0) (G) (wZ L xs) (M := tbM259) rfl rfl ⟨trivial, trivial, trivial⟩ ?_
  generalize hH1 : (e3_up H 40 99 0) = H1
  replace h := h H1 hH1.symm
  refine e3_K [2, 0, 0, 0] 17 [(2, 40), (0, (H 40 99)), (1, ((-2147483648 : Int64).toInt)), (3, 0), (0, 0), (3, 0), (3, 0)] [] (H1) (G) (wZ L xs) (M := tbM259) rfl rfl ⟨trivial, trivial⟩ ?_
  obtain ⟨nl, h⟩ := h
  exact sM_parts_17 L xs Q nl _ _ _ _ _ h
/-- LetterPostModel.layBranches(II)V -/
def wM_layBranches_235 (Q : e3_H → e3_G → Prop)  (H : e3_H) (G : e3_G) : Prop :=
  Q H G
def wM_layBranches_209 (Q : e3_H → e3_G → Prop) (k91 : Int → Int → Int → e3_H → e3_G → Prop) (l1 : Int) (l2 : Int) (l3 : Int) (H : e3_H) (G : e3_G) : Prop :=
  (k91 l1 l2 (e3_w32 (l3 + 1)) H G)
def wM_layBranches_203 (Q : e3_H → e3_G → Prop) (k91 : Int → Int → Int → e3_H → e3_G → Prop) (k107 : Int → Int → Int → Int → e3_H → e3_G → Prop) (l1 : Int) (l2 : Int) (l3 : Int) (l4 : Int) (H : e3_H) (G : e3_G) : Prop :=
  (k107 l1 l2 l3 (e3_w32 (l4 + 1)) H G)
def wM_layBranches_107 (Q : e3_H → e3_G → Prop) (k91 : Int → Int → Int → e3_H → e3_G → Prop) : Nat → Int → Int → Int → Int → e3_H → e3_G → Prop
  | 0, _, _, _, _, _, _ => False
  | nn + 1, l1, l2, l3, l4, H, G => ((0 : Int) ≤ (e3_w32 (l3 + 1)) ∧ ((e3_w32 (l3 + 1)) : Int) < 41) ∧ (((l4 : Int) < (H 88 (e3_w32 (l3 + 1))) → ((0 : Int) ≤ l3 ∧ (l3 : Int) < 40) ∧ ((((H 93 l3) : Int) = 0 → (wM_layBranches_209 Q k91 l1 l2 l3 H G)) ∧ (¬ (((H 93 l3) : Int) = 0) → ((0 : Int) ≤ l4 ∧ (l4 : Int) < 33000) ∧ ((((H 90 l4) : Int) = l1 → ((0 : Int) ≤ l4 ∧ (l4 : Int) < 33000) ∧ ((((H 92 l4) : Int) = 0 → ((0 : Int) ≤ l4 ∧ (l4 : Int) < 33000) ∧ (((l2 : Int) = 0 → ((0 : Int) ≤ (H 91 l4) ∧ ((H 91 l4) : Int) < 1700) ∧ (wM_cut (fun H7 G8 => ((0 : Int) ≤ (H 91 l4) ∧ ((H 91 l4) : Int) < 1700) ∧ (wM_cut (fun H11 G12 => (wM_layBranches_203 Q k91 (fun l1 l2 l3 l4 H G => wM_layBranches_107 Q k91 nn l1 l2 l3 l4 H G) l1 l2 l3 l4 H11 G12)) (e3_w64 ((H7 49 (H 91 l4)) + 1)) H7 G8)) (H 48 (H 91 l4)) H G)) ∧ (¬ ((l2 : Int) = 0) → ((0 : Int) ≤ (H 91 l4) ∧ ((H 91 l4) : Int) < 1700) ∧ (wM_wants (fun H15 G16 => (wM_layBranches_203 Q k91 (fun l1 l2 l3 l4 H G => wM_layBranches_107 Q k91 nn l1 l2 l3 l4 H G) l1 l2 l3 l4 H15 G16)) (H 50 (H 91 l4)) H G)))) ∧ (¬ (((H 92 l4) : Int) = 0) → (wM_layBranches_203 Q k91 (fun l1 l2 l3 l4 H G => wM_layBranches_107 Q k91 nn l1 l2 l3 l4 H G) l1 l2 l3 l4 H G)))) ∧ (¬ (((H 90 l4) : Int) = l1) → (wM_layBranches_203 Q k91 (fun l1 l2 l3 l4 H G => wM_layBranches_107 Q k91 nn l1 l2 l3 l4 H G) l1 l2 l3 l4 H G)))))) ∧ (¬ ((l4 : Int) < (H 88 (e3_w32 (l3 + 1)))) → (wM_layBranches_209 Q k91 l1 l2 l3 H G)))
def wM_layBranches_91 (Q : e3_H → e3_G → Prop) : Nat → Int → Int → Int → e3_H → e3_G → Prop
  | 0, _, _, _, _, _ => False
  | nn + 1, l1, l2, l3, H, G => (((l3 : Int) < (H 40 61) → ((0 : Int) ≤ l3 ∧ (l3 : Int) < 41) ∧ (∃ n, wM_layBranches_107 Q (fun l1 l2 l3 H G => wM_layBranches_91 Q nn l1 l2 l3 H G) n l1 l2 l3 (H 88 l3) H G)) ∧ (¬ ((l3 : Int) < (H 40 61)) → (((l2 : Int) = 2 → (wM_oneBranch (fun H2 G3 => (wM_layBranches_235 Q H2 G3)) 0 0 0 1 H G)) ∧ (¬ ((l2 : Int) = 2) → (wM_parts (fun H5 G6 => (wM_layBranches_235 Q H5 G6)) H G)))))
def wM_layBranches_56 (Q : e3_H → e3_G → Prop) (k21 : Int → Int → e3_H → e3_G → Prop) (l2 : Int) (l3 : Int) (H : e3_H) (G : e3_G) : Prop :=
  (k21 l2 (e3_w32 (l3 + 1)) H G)
def wM_layBranches_21 (Q : e3_H → e3_G → Prop) : Nat → Int → Int → e3_H → e3_G → Prop
  | 0, _, _, _, _ => False
  | nn + 1, l2, l3, H, G => (((l3 : Int) < (H 40 10) → (wM_isSealed (fun x3 H1 G2 => (((x3 : Int) = 0 → (wM_isOf (fun x6 H4 G5 => (((x6 : Int) = 0 → (wM_layBranches_56 Q (fun l2 l3 H G => wM_layBranches_21 Q nn l2 l3 H G) l2 l3 H4 G5)) ∧ (¬ ((x6 : Int) = 0) → (wM_oneBranch (fun H7 G8 => (wM_layBranches_56 Q (fun l2 l3 H G => wM_layBranches_21 Q nn l2 l3 H G) l2 l3 H7 G8)) l3 0 0 0 H4 G5)))) l3 (e3_w32 (l2 - 3)) H1 G2)) ∧ (¬ ((x3 : Int) = 0) → (wM_layBranches_56 Q (fun l2 l3 H G => wM_layBranches_21 Q nn l2 l3 H G) l2 l3 H1 G2)))) l3 H G)) ∧ (¬ ((l3 : Int) < (H 40 10)) → (wM_layBranches_235 Q H G)))
def wM_layBranches (Q : e3_H → e3_G → Prop) (l1 : Int) (l2 : Int) (H : e3_H) (G : e3_G) : Prop :=
  ∀ H1 : e3_H, H1 = e3_up H 40 99 0 → (((l2 : Int) < 3 → (((l2 : Int) = 1 → (wM_oneBranch (fun H2 G3 => (wM_oneBranch (fun H5 G6 => (wM_layBranches_235 Q H5 G6)) 1 0 0 0 H2 G3)) 0 0 0 0 H1 G)) ∧ (¬ ((l2 : Int) = 1) → (∃ n, wM_layBranches_91 Q n l1 l2 0 H1 G)))) ∧ (¬ ((l2 : Int) < 3) → (wM_oneBranch (fun H8 G9 => (∃ n, wM_layBranches_21 Q n l2 0 H8 G9)) (-4) 0 0 0 H1 G)))
set_option maxRecDepth 100000 in
set_option maxHeartbeats 4000000 in
theorem sM_layBranches_235 (L : Nat) (xs : Nat → Int32) (Q : e3_H → e3_G → Prop)  (H : e3_H) (G : e3_G) (h : wM_layBranches_235 Q  H G) : e3_Ev (wB L xs) 2 51 255 235 [(3, 0), (3, 0), (3, 0), (3, 0), (3, 0), (3, 0)] [] H G (e3_qv Q) := by
  unfold wM_layBranches_235 at h
  exact e3_retv (M := tbM255) rfl rfl rfl ⟨rfl, h⟩
set_option maxRecDepth 100000 in
set_option maxHeartbeats 4000000 in
theorem sM_layBranches_209 (L : Nat) (xs : Nat → Int32) (Q : e3_H → e3_G → Prop) (k91 : Int → Int → Int → e3_H → e3_G → Prop) (hk91 : ∀ (l1 : Int) (l2 : Int) (l3 : Int) (H : e3_H) (G : e3_G), k91 l1 l2 l3 H G → e3_Ev (wB L xs) 2 51 255 91 [(2, 40), (0, l1), (0, l2), (0, l3), (3, 0), (3, 0)] [] H G (e3_qv Q)) (l1 : Int) (l2 : Int) (l3 : Int) (H : e3_H) (G : e3_G) (h : wM_layBranches_209 Q k91 l1 l2 l3 H G) : e3_Ev (wB L xs) 2 51 255 209 [(2, 40), (0, l1), (0, l2), (0, l3), (3, 0), (3, 0)] [] H G (e3_qv Q) := by
  unfold wM_layBranches_209 at h
  refine e3_K [0, 0] 91 [(2, 40), (0, l1), (0, l2), (0, (e3_w32 (l3 + 1))), (3, 0), (3, 0)] [] (H) (G) (wZ L xs) (M := tbM255) rfl rfl trivial ?_
  exact hk91 _ _ _ _ _ h
set_option maxRecDepth 100000 in
set_option maxHeartbeats 4000000 in
theorem sM_layBranches_203 (L : Nat) (xs : Nat → Int32) (Q : e3_H → e3_G → Prop) (k91 : Int → Int → Int → e3_H → e3_G → Prop) (hk91 : ∀ (l1 : Int) (l2 : Int) (l3 : Int) (H : e3_H) (G : e3_G), k91 l1 l2 l3 H G → e3_Ev (wB L xs) 2 51 255 91 [(2, 40), (0, l1), (0, l2), (0, l3), (3, 0), (3, 0)] [] H G (e3_qv Q)) (k107 : Int → Int → Int → Int → e3_H → e3_G → Prop) (hk107 : ∀ (l1 : Int) (l2 : Int) (l3 : Int) (l4 : Int) (H : e3_H) (G : e3_G), k107 l1 l2 l3 l4 H G → e3_Ev (wB L xs) 2 51 255 107 [(2, 40), (0, l1), (0, l2), (0, l3), (0, l4), (3, 0)] [] H G (e3_qv Q)) (l1 : Int) (l2 : Int) (l3 : Int) (l4 : Int) (H : e3_H) (G : e3_G) (h : wM_layBranches_203 Q k91 k107 l1 l2 l3 l4 H G) : e3_Ev (wB L xs) 2 51 255 203 [(2, 40), (0, l1), (0, l2), (0, l3), (0, l4), (3, 0)] [] H G (e3_qv Q) := by
  unfold wM_layBranches_203 at h
  refine e3_K [0, 0] 107 [(2, 40), (0, l1), (0, l2), (0, l3), (0, (e3_w32 (l4 + 1))), (3, 0)] [] (H) (G) (wZ L xs) (M := tbM255) rfl rfl trivial ?_
  exact hk107 _ _ _ _ _ _ h
set_option maxRecDepth 100000 in
set_option maxHeartbeats 4000000 in
theorem sM_layBranches_107 (L : Nat) (xs : Nat → Int32) (Q : e3_H → e3_G → Prop) (k91 : Int → Int → Int → e3_H → e3_G → Prop) (hk91 : ∀ (l1 : Int) (l2 : Int) (l3 : Int) (H : e3_H) (G : e3_G), k91 l1 l2 l3 H G → e3_Ev (wB L xs) 2 51 255 91 [(2, 40), (0, l1), (0, l2), (0, l3), (3, 0), (3, 0)] [] H G (e3_qv Q)) : ∀ (nl : Nat) (l1 : Int) (l2 : Int) (l3 : Int) (l4 : Int) (H : e3_H) (G : e3_G), wM_layBranches_107 Q k91 nl l1 l2 l3 l4 H G → e3_Ev (wB L xs) 2 51 255 107 [(2, 40), (0, l1), (0, l2), (0, l3), (0, l4), (3, 0)] [] H G (e3_qv Q) := by
  intro nl
  induction nl with
  | zero => intro l1 l2 l3 l4 H G h; exact h.elim
  | succ nn ih =>
    intro l1 l2 l3 l4 H G h
    have h : ((0 : Int) ≤ (e3_w32 (l3 + 1)) ∧ ((e3_w32 (l3 + 1)) : Int) < 41) ∧ (((l4 : Int) < (H 88 (e3_w32 (l3 + 1))) → ((0 : Int) ≤ l3 ∧ (l3 : Int) < 40) ∧ ((((H 93 l3) : Int) = 0 → (wM_layBranches_209 Q k91 l1 l2 l3 H G)) ∧ (¬ (((H 93 l3) : Int) = 0) → ((0 : Int) ≤ l4 ∧ (l4 : Int) < 33000) ∧ ((((H 90 l4) : Int) = l1 → ((0 : Int) ≤ l4 ∧ (l4 : Int) < 33000) ∧ ((((H 92 l4) : Int) = 0 → ((0 : Int) ≤ l4 ∧ (l4 : Int) < 33000) ∧ (((l2 : Int) = 0 → ((0 : Int) ≤ (H 91 l4) ∧ ((H 91 l4) : Int) < 1700) ∧ (wM_cut (fun H7 G8 => ((0 : Int) ≤ (H 91 l4) ∧ ((H 91 l4) : Int) < 1700) ∧ (wM_cut (fun H11 G12 => (wM_layBranches_203 Q k91 (fun l1 l2 l3 l4 H G => wM_layBranches_107 Q k91 nn l1 l2 l3 l4 H G) l1 l2 l3 l4 H11 G12)) (e3_w64 ((H7 49 (H 91 l4)) + 1)) H7 G8)) (H 48 (H 91 l4)) H G)) ∧ (¬ ((l2 : Int) = 0) → ((0 : Int) ≤ (H 91 l4) ∧ ((H 91 l4) : Int) < 1700) ∧ (wM_wants (fun H15 G16 => (wM_layBranches_203 Q k91 (fun l1 l2 l3 l4 H G => wM_layBranches_107 Q k91 nn l1 l2 l3 l4 H G) l1 l2 l3 l4 H15 G16)) (H 50 (H 91 l4)) H G)))) ∧ (¬ (((H 92 l4) : Int) = 0) → (wM_layBranches_203 Q k91 (fun l1 l2 l3 l4 H G => wM_layBranches_107 Q k91 nn l1 l2 l3 l4 H G) l1 l2 l3 l4 H G)))) ∧ (¬ (((H 90 l4) : Int) = l1) → (wM_layBranches_203 Q k91 (fun l1 l2 l3 l4 H G => wM_layBranches_107 Q k91 nn l1 l2 l3 l4 H G) l1 l2 l3 l4 H G)))))) ∧ (¬ ((l4 : Int) < (H 88 (e3_w32 (l3 + 1)))) → (wM_layBranches_209 Q k91 l1 l2 l3 H G))) := h
    obtain ⟨o1, h⟩ := h
    refine e3_K [0, 0, 4, 0, 0, 0, 2] 117 [(2, 40), (0, l1), (0, l2), (0, l3), (0, l4), (3, 0)] [(0, (H 88 (e3_w32 (l3 + 1)))), (0, l4)] (H) (G) (wZ L xs) (M := tbM255) rfl rfl ⟨trivial, o1, trivial⟩ ?_
    refine e3_br (M := tbM255) rfl rfl rfl Iff.rfl (fun hc => ?_) (fun hc => ?_)
    · replace h := h.1 hc
      obtain ⟨o2, h⟩ := h
      refine e3_K [0, 4, 0, 2] 126 [(2, 40), (0, l1), (0, l2), (0, l3), (0, l4), (3, 0)] [(0, (H 93 l3))] (H) (G) (wZ L xs) (M := tbM255) rfl rfl ⟨trivial, o2, trivial⟩ ?_
      refine e3_br (M := tbM255) rfl rfl rfl Iff.rfl (fun hc => ?_) (fun hc => ?_)
      · replace h := h.1 hc
        refine e3_fgt [true, true, true, true, false, false] ?_
        exact sM_layBranches_209 L xs Q k91 hk91 _ _ _ _ _ h
      · replace h := h.2 hc
        obtain ⟨o3, h⟩ := h
        refine e3_K [0, 4, 0, 2, 0] 137 [(2, 40), (0, l1), (0, l2), (0, l3), (0, l4), (3, 0)] [(0, l1), (0, (H 90 l4))] (H) (G) (wZ L xs) (M := tbM255) rfl rfl ⟨trivial, o3, trivial⟩ ?_
        refine e3_br (M := tbM255) rfl rfl rfl Iff.rfl (fun hc => ?_) (fun hc => ?_)
        · replace h := h.1 hc
          obtain ⟨o4, h⟩ := h
          refine e3_K [0, 4, 0, 2] 147 [(2, 40), (0, l1), (0, l2), (0, l3), (0, l4), (3, 0)] [(0, (H 92 l4))] (H) (G) (wZ L xs) (M := tbM255) rfl rfl ⟨trivial, o4, trivial⟩ ?_
          refine e3_br (M := tbM255) rfl rfl rfl Iff.rfl (fun hc => ?_) (fun hc => ?_)
          · replace h := h.1 hc
            obtain ⟨o5, h⟩ := h
            refine e3_K [0, 4, 0, 2, 0, 0] 160 [(2, 40), (0, l1), (0, l2), (0, l3), (0, l4), (0, (H 91 l4))] [(0, l2)] (H) (G) (wZ L xs) (M := tbM255) rfl rfl ⟨trivial, o5, trivial⟩ ?_
            refine e3_br (M := tbM255) rfl rfl rfl Iff.rfl (fun hc => ?_) (fun hc => ?_)
            · replace h := h.1 hc
              obtain ⟨o6, h⟩ := h
              refine e3_K [0, 0, 4, 0, 2, 0] 172 [(2, 40), (0, l1), (0, l2), (0, l3), (0, l4), (0, (H 91 l4))] [(1, (H 48 (H 91 l4))), (2, 40)] (H) (G) (wZ L xs) (M := tbM255) rfl rfl ⟨trivial, o6, trivial⟩ ?_
              refine e3_call (o := 0) (k := 257) (M2 := tbM257) (f1 := 0) (w1 := 0) (as := [(2, 40), (1, (H 48 (H 91 l4)))]) (rest := []) (M := tbM255) rfl rfl rfl trivial (Nat.le_of_ble_eq_true rfl) (Nat.le_of_ble_eq_true rfl) (Nat.le_of_ble_eq_true rfl) ?_
              refine e3_mono (sM_cut L xs _ _ _ _ h) (fun r H7 G8 h => ?_)
              obtain ⟨rfl, h⟩ := h
              change e3_Ev _ _ _ _ 175 [(2, 40), (0, l1), (0, l2), (0, l3), (0, l4), (0, (H 91 l4))] [] H7 G8 _
              obtain ⟨o10, h⟩ := h
              refine e3_K [0, 0, 4, 0, 2, 0, 0, 0] 186 [(2, 40), (0, l1), (0, l2), (0, l3), (0, l4), (0, (H 91 l4))] [(1, (e3_w64 ((H7 49 (H 91 l4)) + 1))), (2, 40)] (H7) (G8) (wZ L xs) (M := tbM255) rfl rfl ⟨trivial, o10, trivial⟩ ?_
              refine e3_call (o := 0) (k := 257) (M2 := tbM257) (f1 := 0) (w1 := 0) (as := [(2, 40), (1, (e3_w64 ((H7 49 (H 91 l4)) + 1)))]) (rest := []) (M := tbM255) rfl rfl rfl trivial (Nat.le_of_ble_eq_true rfl) (Nat.le_of_ble_eq_true rfl) (Nat.le_of_ble_eq_true rfl) ?_
              refine e3_mono (sM_cut L xs _ _ _ _ h) (fun r H11 G12 h => ?_)
              obtain ⟨rfl, h⟩ := h
              change e3_Ev _ _ _ _ 189 [(2, 40), (0, l1), (0, l2), (0, l3), (0, l4), (0, (H 91 l4))] [] H11 G12 _
              refine e3_K [0] 203 [(2, 40), (0, l1), (0, l2), (0, l3), (0, l4), (0, (H 91 l4))] [] (H11) (G12) (wZ L xs) (M := tbM255) rfl rfl trivial ?_
              refine e3_fgt [true, true, true, true, true, false] ?_
              exact sM_layBranches_203 L xs Q k91 hk91 (fun l1 l2 l3 l4 H G => wM_layBranches_107 Q k91 nn l1 l2 l3 l4 H G) ih _ _ _ _ _ _ h
            · replace h := h.2 hc
              obtain ⟨o14, h⟩ := h
              refine e3_K [0, 0, 4, 0, 2] 200 [(2, 40), (0, l1), (0, l2), (0, l3), (0, l4), (0, (H 91 l4))] [(1, (H 50 (H 91 l4))), (2, 40)] (H) (G) (wZ L xs) (M := tbM255) rfl rfl ⟨trivial, o14, trivial⟩ ?_
              refine e3_call (o := 0) (k := 258) (M2 := tbM258) (f1 := 1) (w1 := 25) (as := [(2, 40), (1, (H 50 (H 91 l4)))]) (rest := []) (M := tbM255) rfl rfl rfl trivial (Nat.le_of_ble_eq_true rfl) (Nat.le_of_ble_eq_true rfl) (Nat.le_of_ble_eq_true rfl) ?_
              refine e3_mono (sM_wants L xs _ _ _ _ h) (fun r H15 G16 h => ?_)
              obtain ⟨rfl, h⟩ := h
              change e3_Ev _ _ _ _ 203 [(2, 40), (0, l1), (0, l2), (0, l3), (0, l4), (0, (H 91 l4))] [] H15 G16 _
              refine e3_fgt [true, true, true, true, true, false] ?_
              exact sM_layBranches_203 L xs Q k91 hk91 (fun l1 l2 l3 l4 H G => wM_layBranches_107 Q k91 nn l1 l2 l3 l4 H G) ih _ _ _ _ _ _ h
          · replace h := h.2 hc
            exact sM_layBranches_203 L xs Q k91 hk91 (fun l1 l2 l3 l4 H G => wM_layBranches_107 Q k91 nn l1 l2 l3 l4 H G) ih _ _ _ _ _ _ h
        · replace h := h.2 hc
          exact sM_layBranches_203 L xs Q k91 hk91 (fun l1 l2 l3 l4 H G => wM_layBranches_107 Q k91 nn l1 l2 l3 l4 H G) ih _ _ _ _ _ _ h
    · replace h := h.2 hc
      refine e3_fgt [true, true, true, true, false, false] ?_
      exact sM_layBranches_209 L xs Q k91 hk91 _ _ _ _ _ h
set_option maxRecDepth 100000 in
set_option maxHeartbeats 4000000 in
theorem sM_layBranches_91 (L : Nat) (xs : Nat → Int32) (Q : e3_H → e3_G → Prop) : ∀ (nl : Nat) (l1 : Int) (l2 : Int) (l3 : Int) (H : e3_H) (G : e3_G), wM_layBranches_91 Q nl l1 l2 l3 H G → e3_Ev (wB L xs) 2 51 255 91 [(2, 40), (0, l1), (0, l2), (0, l3), (3, 0), (3, 0)] [] H G (e3_qv Q) := by
  intro nl
  induction nl with
  | zero => intro l1 l2 l3 H G h; exact h.elim
  | succ nn ih =>
    intro l1 l2 l3 H G h
    have h : (((l3 : Int) < (H 40 61) → ((0 : Int) ≤ l3 ∧ (l3 : Int) < 41) ∧ (∃ n, wM_layBranches_107 Q (fun l1 l2 l3 H G => wM_layBranches_91 Q nn l1 l2 l3 H G) n l1 l2 l3 (H 88 l3) H G)) ∧ (¬ ((l3 : Int) < (H 40 61)) → (((l2 : Int) = 2 → (wM_oneBranch (fun H2 G3 => (wM_layBranches_235 Q H2 G3)) 0 0 0 1 H G)) ∧ (¬ ((l2 : Int) = 2) → (wM_parts (fun H5 G6 => (wM_layBranches_235 Q H5 G6)) H G))))) := h
    refine e3_K [0, 0, 2] 96 [(2, 40), (0, l1), (0, l2), (0, l3), (3, 0), (3, 0)] [(0, (H 40 61)), (0, l3)] (H) (G) (wZ L xs) (M := tbM255) rfl rfl ⟨trivial, trivial⟩ ?_
    refine e3_br (M := tbM255) rfl rfl rfl Iff.rfl (fun hc => ?_) (fun hc => ?_)
    · replace h := h.1 hc
      obtain ⟨o1, h⟩ := h
      refine e3_K [0, 4, 0, 2, 0] 107 [(2, 40), (0, l1), (0, l2), (0, l3), (0, (H 88 l3)), (3, 0)] [] (H) (G) (wZ L xs) (M := tbM255) rfl rfl ⟨trivial, o1, trivial⟩ ?_
      obtain ⟨nl, h⟩ := h
      exact sM_layBranches_107 L xs Q (fun l1 l2 l3 H G => wM_layBranches_91 Q nn l1 l2 l3 H G) ih nl _ _ _ _ _ _ h
    · replace h := h.2 hc
      refine e3_K [0, 0] 217 [(2, 40), (0, l1), (0, l2), (0, l3), (3, 0), (3, 0)] [(0, 2), (0, l2)] (H) (G) (wZ L xs) (M := tbM255) rfl rfl trivial ?_
      refine e3_br (M := tbM255) rfl rfl rfl Iff.rfl (fun hc => ?_) (fun hc => ?_)
      · replace h := h.1 hc
        refine e3_K [0, 0, 0, 0, 0] 225 [(2, 40), (0, l1), (0, l2), (0, l3), (3, 0), (3, 0)] [(0, 1), (1, 0), (0, 0), (0, 0), (2, 40)] (H) (G) (wZ L xs) (M := tbM255) rfl rfl trivial ?_
        refine e3_call (o := 0) (k := 256) (M2 := tbM256) (f1 := 0) (w1 := 0) (as := [(2, 40), (0, 0), (0, 0), (1, 0), (0, 1)]) (rest := []) (M := tbM255) rfl rfl rfl trivial (Nat.le_of_ble_eq_true rfl) (Nat.le_of_ble_eq_true rfl) (Nat.le_of_ble_eq_true rfl) ?_
        refine e3_mono (sM_oneBranch L xs _ _ _ _ _ _ _ h) (fun r H2 G3 h => ?_)
        obtain ⟨rfl, h⟩ := h
        change e3_Ev _ _ _ _ 228 [(2, 40), (0, l1), (0, l2), (0, l3), (3, 0), (3, 0)] [] H2 G3 _
        refine e3_K [0] 235 [(2, 40), (0, l1), (0, l2), (0, l3), (3, 0), (3, 0)] [] (H2) (G3) (wZ L xs) (M := tbM255) rfl rfl trivial ?_
        refine e3_fgt [false, false, false, false, false, false] ?_
        exact sM_layBranches_235 L xs Q _ _ h
      · replace h := h.2 hc
        refine e3_K [0] 232 [(2, 40), (0, l1), (0, l2), (0, l3), (3, 0), (3, 0)] [(2, 40)] (H) (G) (wZ L xs) (M := tbM255) rfl rfl trivial ?_
        refine e3_call (o := 0) (k := 259) (M2 := tbM259) (f1 := 1) (w1 := 25) (as := [(2, 40)]) (rest := []) (M := tbM255) rfl rfl rfl trivial (Nat.le_of_ble_eq_true rfl) (Nat.le_of_ble_eq_true rfl) (Nat.le_of_ble_eq_true rfl) ?_
        refine e3_mono (sM_parts L xs _ _ _ h) (fun r H5 G6 h => ?_)
        obtain ⟨rfl, h⟩ := h
        change e3_Ev _ _ _ _ 235 [(2, 40), (0, l1), (0, l2), (0, l3), (3, 0), (3, 0)] [] H5 G6 _
        refine e3_fgt [false, false, false, false, false, false] ?_
        exact sM_layBranches_235 L xs Q _ _ h
set_option maxRecDepth 100000 in
set_option maxHeartbeats 4000000 in
theorem sM_layBranches_56 (L : Nat) (xs : Nat → Int32) (Q : e3_H → e3_G → Prop) (k21 : Int → Int → e3_H → e3_G → Prop) (hk21 : ∀ (l2 : Int) (l3 : Int) (H : e3_H) (G : e3_G), k21 l2 l3 H G → e3_Ev (wB L xs) 2 51 255 21 [(2, 40), (3, 0), (0, l2), (0, l3), (3, 0), (3, 0)] [] H G (e3_qv Q)) (l2 : Int) (l3 : Int) (H : e3_H) (G : e3_G) (h : wM_layBranches_56 Q k21 l2 l3 H G) : e3_Ev (wB L xs) 2 51 255 56 [(2, 40), (3, 0), (0, l2), (0, l3), (3, 0), (3, 0)] [] H G (e3_qv Q) := by
  unfold wM_layBranches_56 at h
  refine e3_K [0, 0] 21 [(2, 40), (3, 0), (0, l2), (0, (e3_w32 (l3 + 1))), (3, 0), (3, 0)] [] (H) (G) (wZ L xs) (M := tbM255) rfl rfl trivial ?_
  exact hk21 _ _ _ _ h
set_option maxRecDepth 100000 in
set_option maxHeartbeats 4000000 in
theorem sM_layBranches_21 (L : Nat) (xs : Nat → Int32) (Q : e3_H → e3_G → Prop) : ∀ (nl : Nat) (l2 : Int) (l3 : Int) (H : e3_H) (G : e3_G), wM_layBranches_21 Q nl l2 l3 H G → e3_Ev (wB L xs) 2 51 255 21 [(2, 40), (3, 0), (0, l2), (0, l3), (3, 0), (3, 0)] [] H G (e3_qv Q) := by
  intro nl
  induction nl with
  | zero => intro l2 l3 H G h; exact h.elim
  | succ nn ih =>
    intro l2 l3 H G h
    have h : (((l3 : Int) < (H 40 10) → (wM_isSealed (fun x3 H1 G2 => (((x3 : Int) = 0 → (wM_isOf (fun x6 H4 G5 => (((x6 : Int) = 0 → (wM_layBranches_56 Q (fun l2 l3 H G => wM_layBranches_21 Q nn l2 l3 H G) l2 l3 H4 G5)) ∧ (¬ ((x6 : Int) = 0) → (wM_oneBranch (fun H7 G8 => (wM_layBranches_56 Q (fun l2 l3 H G => wM_layBranches_21 Q nn l2 l3 H G) l2 l3 H7 G8)) l3 0 0 0 H4 G5)))) l3 (e3_w32 (l2 - 3)) H1 G2)) ∧ (¬ ((x3 : Int) = 0) → (wM_layBranches_56 Q (fun l2 l3 H G => wM_layBranches_21 Q nn l2 l3 H G) l2 l3 H1 G2)))) l3 H G)) ∧ (¬ ((l3 : Int) < (H 40 10)) → (wM_layBranches_235 Q H G))) := h
    refine e3_K [0, 0, 2] 26 [(2, 40), (3, 0), (0, l2), (0, l3), (3, 0), (3, 0)] [(0, (H 40 10)), (0, l3)] (H) (G) (wZ L xs) (M := tbM255) rfl rfl ⟨trivial, trivial⟩ ?_
    refine e3_br (M := tbM255) rfl rfl rfl Iff.rfl (fun hc => ?_) (fun hc => ?_)
    · replace h := h.1 hc
      refine e3_K [0, 0] 31 [(2, 40), (3, 0), (0, l2), (0, l3), (3, 0), (3, 0)] [(0, l3), (2, 40)] (H) (G) (wZ L xs) (M := tbM255) rfl rfl trivial ?_
      refine e3_call (o := 0) (k := 213) (M2 := tbM213) (f1 := 0) (w1 := 0) (as := [(2, 40), (0, l3)]) (rest := []) (M := tbM255) rfl rfl rfl trivial (Nat.le_of_ble_eq_true rfl) (Nat.le_of_ble_eq_true rfl) (Nat.le_of_ble_eq_true rfl) ?_
      refine e3_mono (sM_isSealed L xs _ _ _ _ h) (fun r H1 G2 h => ?_)
      obtain ⟨x3, rfl, h⟩ := h
      change e3_Ev _ _ _ _ 34 [(2, 40), (3, 0), (0, l2), (0, l3), (3, 0), (3, 0)] [(0, x3)] H1 G2 _
      refine e3_br (M := tbM255) rfl rfl rfl Iff.rfl (fun hc => ?_) (fun hc => ?_)
      · replace h := h.1 hc
        refine e3_K [0, 0, 0, 0, 0] 42 [(2, 40), (3, 0), (0, l2), (0, l3), (3, 0), (3, 0)] [(0, (e3_w32 (l2 - 3))), (0, l3), (2, 40)] (H1) (G2) (wZ L xs) (M := tbM255) rfl rfl trivial ?_
        refine e3_call (o := 0) (k := 223) (M2 := tbM223) (f1 := 0) (w1 := 0) (as := [(2, 40), (0, l3), (0, (e3_w32 (l2 - 3)))]) (rest := []) (M := tbM255) rfl rfl rfl trivial (Nat.le_of_ble_eq_true rfl) (Nat.le_of_ble_eq_true rfl) (Nat.le_of_ble_eq_true rfl) ?_
        refine e3_mono (sM_isOf L xs _ _ _ _ _ h) (fun r H4 G5 h => ?_)
        obtain ⟨x6, rfl, h⟩ := h
        change e3_Ev _ _ _ _ 45 [(2, 40), (3, 0), (0, l2), (0, l3), (3, 0), (3, 0)] [(0, x6)] H4 G5 _
        refine e3_br (M := tbM255) rfl rfl rfl Iff.rfl (fun hc => ?_) (fun hc => ?_)
        · replace h := h.1 hc
          exact sM_layBranches_56 L xs Q (fun l2 l3 H G => wM_layBranches_21 Q nn l2 l3 H G) ih _ _ _ _ h
        · replace h := h.2 hc
          refine e3_K [0, 0, 0, 0, 0] 53 [(2, 40), (3, 0), (0, l2), (0, l3), (3, 0), (3, 0)] [(0, 0), (1, 0), (0, 0), (0, l3), (2, 40)] (H4) (G5) (wZ L xs) (M := tbM255) rfl rfl trivial ?_
          refine e3_call (o := 0) (k := 256) (M2 := tbM256) (f1 := 0) (w1 := 0) (as := [(2, 40), (0, l3), (0, 0), (1, 0), (0, 0)]) (rest := []) (M := tbM255) rfl rfl rfl trivial (Nat.le_of_ble_eq_true rfl) (Nat.le_of_ble_eq_true rfl) (Nat.le_of_ble_eq_true rfl) ?_
          refine e3_mono (sM_oneBranch L xs _ _ _ _ _ _ _ h) (fun r H7 G8 h => ?_)
          obtain ⟨rfl, h⟩ := h
          change e3_Ev _ _ _ _ 56 [(2, 40), (3, 0), (0, l2), (0, l3), (3, 0), (3, 0)] [] H7 G8 _
          exact sM_layBranches_56 L xs Q (fun l2 l3 H G => wM_layBranches_21 Q nn l2 l3 H G) ih _ _ _ _ h
      · replace h := h.2 hc
        exact sM_layBranches_56 L xs Q (fun l2 l3 H G => wM_layBranches_21 Q nn l2 l3 H G) ih _ _ _ _ h
    · replace h := h.2 hc
      refine e3_K [0] 235 [(2, 40), (3, 0), (0, l2), (0, l3), (3, 0), (3, 0)] [] (H) (G) (wZ L xs) (M := tbM255) rfl rfl trivial ?_
      refine e3_fgt [false, false, false, false, false, false] ?_
      exact sM_layBranches_235 L xs Q _ _ h
set_option maxRecDepth 100000 in
set_option maxHeartbeats 4000000 in
theorem sM_layBranches (L : Nat) (xs : Nat → Int32) (Q : e3_H → e3_G → Prop) (l1 : Int) (l2 : Int) (H : e3_H) (G : e3_G) (h : wM_layBranches Q l1 l2 H G) : e3_Ev (wB L xs) 2 51 255 0 [(2, 40), (0, l1), (0, l2), (3, 0), (3, 0), (3, 0)] [] H G (e3_qv Q) := by
  unfold wM_layBranches at h
  refine e3_K [0, 0, 2] 5 [(2, 40), (0, l1), (0, l2), (3, 0), (3, 0), (3, 0)] [] (e3_up H 40 99 0) (G) (wZ L xs) (M := tbM255) rfl rfl ⟨trivial, trivial⟩ ?_
  generalize hH1 : (e3_up H 40 99 0) = H1
  replace h := h H1 hH1.symm
  refine e3_K [0, 0] 7 [(2, 40), (0, l1), (0, l2), (3, 0), (3, 0), (3, 0)] [(0, 3), (0, l2)] (H1) (G) (wZ L xs) (M := tbM255) rfl rfl trivial ?_
  refine e3_br (M := tbM255) rfl rfl rfl Iff.rfl (fun hc => ?_) (fun hc => ?_)
  · replace h := h.1 hc
    refine e3_K [0, 0] 67 [(2, 40), (0, l1), (0, l2), (3, 0), (3, 0), (3, 0)] [(0, 1), (0, l2)] (H1) (G) (wZ L xs) (M := tbM255) rfl rfl trivial ?_
    refine e3_br (M := tbM255) rfl rfl rfl Iff.rfl (fun hc => ?_) (fun hc => ?_)
    · replace h := h.1 hc
      refine e3_K [0, 0, 0, 0, 0] 75 [(2, 40), (0, l1), (0, l2), (3, 0), (3, 0), (3, 0)] [(0, 0), (1, 0), (0, 0), (0, 0), (2, 40)] (H1) (G) (wZ L xs) (M := tbM255) rfl rfl trivial ?_
      refine e3_call (o := 0) (k := 256) (M2 := tbM256) (f1 := 0) (w1 := 0) (as := [(2, 40), (0, 0), (0, 0), (1, 0), (0, 0)]) (rest := []) (M := tbM255) rfl rfl rfl trivial (Nat.le_of_ble_eq_true rfl) (Nat.le_of_ble_eq_true rfl) (Nat.le_of_ble_eq_true rfl) ?_
      refine e3_mono (sM_oneBranch L xs _ _ _ _ _ _ _ h) (fun r H2 G3 h => ?_)
      obtain ⟨rfl, h⟩ := h
      change e3_Ev _ _ _ _ 78 [(2, 40), (0, l1), (0, l2), (3, 0), (3, 0), (3, 0)] [] H2 G3 _
      refine e3_K [0, 0, 0, 0, 0] 83 [(2, 40), (0, l1), (0, l2), (3, 0), (3, 0), (3, 0)] [(0, 0), (1, 0), (0, 0), (0, 1), (2, 40)] (H2) (G3) (wZ L xs) (M := tbM255) rfl rfl trivial ?_
      refine e3_call (o := 0) (k := 256) (M2 := tbM256) (f1 := 0) (w1 := 0) (as := [(2, 40), (0, 1), (0, 0), (1, 0), (0, 0)]) (rest := []) (M := tbM255) rfl rfl rfl trivial (Nat.le_of_ble_eq_true rfl) (Nat.le_of_ble_eq_true rfl) (Nat.le_of_ble_eq_true rfl) ?_
      refine e3_mono (sM_oneBranch L xs _ _ _ _ _ _ _ h) (fun r H5 G6 h => ?_)
      obtain ⟨rfl, h⟩ := h
      change e3_Ev _ _ _ _ 86 [(2, 40), (0, l1), (0, l2), (3, 0), (3, 0), (3, 0)] [] H5 G6 _
      refine e3_K [0] 235 [(2, 40), (0, l1), (0, l2), (3, 0), (3, 0), (3, 0)] [] (H5) (G6) (wZ L xs) (M := tbM255) rfl rfl trivial ?_
      refine e3_fgt [false, false, false, false, false, false] ?_
      exact sM_layBranches_235 L xs Q _ _ h
    · replace h := h.2 hc
      refine e3_K [0, 0] 91 [(2, 40), (0, l1), (0, l2), (0, 0), (3, 0), (3, 0)] [] (H1) (G) (wZ L xs) (M := tbM255) rfl rfl trivial ?_
      obtain ⟨nl, h⟩ := h
      exact sM_layBranches_91 L xs Q nl _ _ _ _ _ h
  · replace h := h.2 hc
    refine e3_K [0, 0, 0, 0, 0] 16 [(2, 40), (0, l1), (0, l2), (3, 0), (3, 0), (3, 0)] [(0, 0), (1, 0), (0, 0), (0, (-4)), (2, 40)] (H1) (G) (wZ L xs) (M := tbM255) rfl rfl trivial ?_
    refine e3_call (o := 0) (k := 256) (M2 := tbM256) (f1 := 0) (w1 := 0) (as := [(2, 40), (0, (-4)), (0, 0), (1, 0), (0, 0)]) (rest := []) (M := tbM255) rfl rfl rfl trivial (Nat.le_of_ble_eq_true rfl) (Nat.le_of_ble_eq_true rfl) (Nat.le_of_ble_eq_true rfl) ?_
    refine e3_mono (sM_oneBranch L xs _ _ _ _ _ _ _ h) (fun r H8 G9 h => ?_)
    obtain ⟨rfl, h⟩ := h
    change e3_Ev _ _ _ _ 19 [(2, 40), (0, l1), (0, l2), (3, 0), (3, 0), (3, 0)] [] H8 G9 _
    refine e3_K [0, 0] 21 [(2, 40), (0, l1), (0, l2), (0, 0), (3, 0), (3, 0)] [] (H8) (G9) (wZ L xs) (M := tbM255) rfl rfl trivial ?_
    refine e3_fgt [true, false, true, true, false, false] ?_
    obtain ⟨nl, h⟩ := h
    exact sM_layBranches_21 L xs Q nl _ _ _ _ h
