/-- LetterPostModel.wanted()I -/
def wM_wanted_56 (Q : Int → e3_H → e3_G → Prop) (s0 : Int) (H : e3_H) (G : e3_G) : Prop :=
  Q s0 H G
def wM_wanted (Q : Int → e3_H → e3_G → Prop)  (H : e3_H) (G : e3_G) : Prop :=
  ((0 : Int) ≤ (e3_w32 ((H 40 32) - 1)) ∧ ((e3_w32 ((H 40 32) - 1)) : Int) < 8) ∧ ((0 : Int) ≤ (H 59 (e3_w32 ((H 40 32) - 1))) ∧ ((H 59 (e3_w32 ((H 40 32) - 1))) : Int) < 1700) ∧ ((((H 46 (H 59 (e3_w32 ((H 40 32) - 1)))) : Int) = 5 → ((0 : Int) ≤ (H 59 (e3_w32 ((H 40 32) - 1))) ∧ ((H 59 (e3_w32 ((H 40 32) - 1))) : Int) < 1700) ∧ ((0 : Int) ≤ (e3_w32 ((H 40 32) - 1)) ∧ ((e3_w32 ((H 40 32) - 1)) : Int) < 8) ∧ ((0 : Int) ≤ (e3_w32 ((e3_w32 (4 * (H 48 (H 59 (e3_w32 ((H 40 32) - 1)))))) + (H 60 (e3_w32 ((H 40 32) - 1))))) ∧ ((e3_w32 ((e3_w32 (4 * (H 48 (H 59 (e3_w32 ((H 40 32) - 1)))))) + (H 60 (e3_w32 ((H 40 32) - 1))))) : Int) < 96) ∧ (wM_wanted_56 Q (H 45 (e3_w32 ((e3_w32 (4 * (H 48 (H 59 (e3_w32 ((H 40 32) - 1)))))) + (H 60 (e3_w32 ((H 40 32) - 1)))))) H G)) ∧ (¬ (((H 46 (H 59 (e3_w32 ((H 40 32) - 1)))) : Int) = 5) → ((0 : Int) ≤ (H 59 (e3_w32 ((H 40 32) - 1))) ∧ ((H 59 (e3_w32 ((H 40 32) - 1))) : Int) < 1700) ∧ (wM_wanted_56 Q (H 47 (H 59 (e3_w32 ((H 40 32) - 1)))) H G)))
set_option maxRecDepth 100000 in
set_option maxHeartbeats 4000000 in
theorem sM_wanted_56 (L : Nat) (xs : Nat → Int32) (Q : Int → e3_H → e3_G → Prop) (s0 : Int) (H : e3_H) (G : e3_G) (h : wM_wanted_56 Q s0 H G) : e3_Ev (wB L xs) 0 0 230 56 [(3, 0), (3, 0)] [(0, s0)] H G (e3_q0 Q) := by
  unfold wM_wanted_56 at h
  exact e3_reti (M := tbM230) rfl rfl rfl ⟨_, rfl, h⟩
set_option maxRecDepth 100000 in
set_option maxHeartbeats 4000000 in
theorem sM_wanted (L : Nat) (xs : Nat → Int32) (Q : Int → e3_H → e3_G → Prop)  (H : e3_H) (G : e3_G) (h : wM_wanted Q  H G) : e3_Ev (wB L xs) 0 0 230 0 [(2, 40), (3, 0)] [] H G (e3_q0 Q) := by
  unfold wM_wanted at h
  obtain ⟨o1, o2, h⟩ := h
  refine e3_K [0, 4, 0, 2, 0, 0, 2, 0, 0, 4, 0, 2, 0] 19 [(2, 40), (0, (H 59 (e3_w32 ((H 40 32) - 1))))] [(0, 5), (0, (H 46 (H 59 (e3_w32 ((H 40 32) - 1)))))] (H) (G) (wZ L xs) (M := tbM230) rfl rfl ⟨trivial, trivial, o1, trivial, o2, trivial⟩ ?_
  refine e3_br (M := tbM230) rfl rfl rfl Iff.rfl (fun hc => ?_) (fun hc => ?_)
  · replace h := h.1 hc
    obtain ⟨o3, o4, o5, h⟩ := h
    refine e3_K [0, 4, 0, 0, 4, 0, 2, 0, 0, 4, 0, 2, 0, 0, 2, 0, 2, 0] 56 [(2, 40), (0, (H 59 (e3_w32 ((H 40 32) - 1))))] [(0, (H 45 (e3_w32 ((e3_w32 (4 * (H 48 (H 59 (e3_w32 ((H 40 32) - 1)))))) + (H 60 (e3_w32 ((H 40 32) - 1)))))))] (H) (G) (wZ L xs) (M := tbM230) rfl rfl ⟨trivial, trivial, o3, trivial, trivial, o4, o5, trivial⟩ ?_
    refine e3_fgt [false, false] ?_
    exact sM_wanted_56 L xs Q _ _ _ h
  · replace h := h.2 hc
    obtain ⟨o6, h⟩ := h
    refine e3_K [0, 4, 0, 2] 56 [(2, 40), (0, (H 59 (e3_w32 ((H 40 32) - 1))))] [(0, (H 47 (H 59 (e3_w32 ((H 40 32) - 1)))))] (H) (G) (wZ L xs) (M := tbM230) rfl rfl ⟨trivial, o6, trivial⟩ ?_
    refine e3_fgt [false, false] ?_
    exact sM_wanted_56 L xs Q _ _ _ h
/-- LetterPostModel.readAs(I)V -/
def wM_readAs_62 (Q : e3_H → e3_G → Prop)  (H : e3_H) (G : e3_G) : Prop :=
  Q H G
def wM_readAs_51 (Q : e3_H → e3_G → Prop)  (H : e3_H) (G : e3_G) : Prop :=
  ((((H 40 7) : Int) = 0 → (wM_next (fun H1 G2 => (wM_readAs_62 Q H1 G2)) H G)) ∧ (¬ (((H 40 7) : Int) = 0) → (wM_readAs_62 Q H G)))
def wM_readAs (Q : e3_H → e3_G → Prop) (l1 : Int) (H : e3_H) (G : e3_G) : Prop :=
  ((((H 40 7) : Int) = 0 → (wM_isWord (fun x3 H1 G2 => (((x3 : Int) = 0 → (wM_readAs_62 Q H1 G2)) ∧ (¬ ((x3 : Int) = 0) → (wM_next (fun H4 G5 => ((((H4 40 3) : Int) = 1 → ((0 : Int) ≤ l1 ∧ (l1 : Int) < 1700) ∧ (wM_binds (fun x10 H8 G9 => ((0 : Int) ≤ l1 ∧ (l1 : Int) < 1700) ∧ ∀ H11 : e3_H, H11 = e3_up H8 54 l1 x10 → (wM_readAs_51 Q H11 G9)) (H4 47 l1) H4 G5)) ∧ (¬ (((H4 40 3) : Int) = 1) → (wM_stop (fun H13 G14 => (wM_readAs_51 Q H13 G14)) 2 H4 G5)))) H1 G2)))) 4 H G)) ∧ (¬ (((H 40 7) : Int) = 0) → (wM_readAs_62 Q H G)))
set_option maxRecDepth 100000 in
set_option maxHeartbeats 4000000 in
theorem sM_readAs_62 (L : Nat) (xs : Nat → Int32) (Q : e3_H → e3_G → Prop)  (H : e3_H) (G : e3_G) (h : wM_readAs_62 Q  H G) : e3_Ev (wB L xs) 4 89 231 62 [(3, 0), (3, 0)] [] H G (e3_qv Q) := by
  unfold wM_readAs_62 at h
  exact e3_retv (M := tbM231) rfl rfl rfl ⟨rfl, h⟩
set_option maxRecDepth 100000 in
set_option maxHeartbeats 4000000 in
theorem sM_readAs_51 (L : Nat) (xs : Nat → Int32) (Q : e3_H → e3_G → Prop)  (H : e3_H) (G : e3_G) (h : wM_readAs_51 Q  H G) : e3_Ev (wB L xs) 4 89 231 51 [(2, 40), (3, 0)] [] H G (e3_qv Q) := by
  unfold wM_readAs_51 at h
  refine e3_K [0, 2] 55 [(2, 40), (3, 0)] [(0, (H 40 7))] (H) (G) (wZ L xs) (M := tbM231) rfl rfl ⟨trivial, trivial⟩ ?_
  refine e3_br (M := tbM231) rfl rfl rfl Iff.rfl (fun hc => ?_) (fun hc => ?_)
  · replace h := h.1 hc
    refine e3_K [0] 59 [(2, 40), (3, 0)] [(2, 40)] (H) (G) (wZ L xs) (M := tbM231) rfl rfl trivial ?_
    refine e3_call (o := 0) (k := 201) (M2 := tbM201) (f1 := 3) (w1 := 67) (as := [(2, 40)]) (rest := []) (M := tbM231) rfl rfl rfl trivial (Nat.le_of_ble_eq_true rfl) (Nat.le_of_ble_eq_true rfl) (Nat.le_of_ble_eq_true rfl) ?_
    refine e3_mono (sM_next L xs _ _ _ h) (fun r H1 G2 h => ?_)
    obtain ⟨rfl, h⟩ := h
    change e3_Ev _ _ _ _ 62 [(2, 40), (3, 0)] [] H1 G2 _
    refine e3_fgt [false, false] ?_
    exact sM_readAs_62 L xs Q _ _ h
  · replace h := h.2 hc
    refine e3_fgt [false, false] ?_
    exact sM_readAs_62 L xs Q _ _ h
set_option maxRecDepth 100000 in
set_option maxHeartbeats 4000000 in
theorem sM_readAs (L : Nat) (xs : Nat → Int32) (Q : e3_H → e3_G → Prop) (l1 : Int) (H : e3_H) (G : e3_G) (h : wM_readAs Q l1 H G) : e3_Ev (wB L xs) 4 89 231 0 [(2, 40), (0, l1)] [] H G (e3_qv Q) := by
  unfold wM_readAs at h
  refine e3_K [0, 2] 4 [(2, 40), (0, l1)] [(0, (H 40 7))] (H) (G) (wZ L xs) (M := tbM231) rfl rfl ⟨trivial, trivial⟩ ?_
  refine e3_br (M := tbM231) rfl rfl rfl Iff.rfl (fun hc => ?_) (fun hc => ?_)
  · replace h := h.1 hc
    refine e3_K [0, 0] 9 [(2, 40), (0, l1)] [(0, 4), (2, 40)] (H) (G) (wZ L xs) (M := tbM231) rfl rfl trivial ?_
    refine e3_call (o := 0) (k := 207) (M2 := tbM207) (f1 := 0) (w1 := 0) (as := [(2, 40), (0, 4)]) (rest := []) (M := tbM231) rfl rfl rfl trivial (Nat.le_of_ble_eq_true rfl) (Nat.le_of_ble_eq_true rfl) (Nat.le_of_ble_eq_true rfl) ?_
    refine e3_mono (sM_isWord L xs _ _ _ _ h) (fun r H1 G2 h => ?_)
    obtain ⟨x3, rfl, h⟩ := h
    change e3_Ev _ _ _ _ 12 [(2, 40), (0, l1)] [(0, x3)] H1 G2 _
    refine e3_br (M := tbM231) rfl rfl rfl Iff.rfl (fun hc => ?_) (fun hc => ?_)
    · replace h := h.1 hc
      refine e3_fgt [false, false] ?_
      exact sM_readAs_62 L xs Q _ _ h
    · replace h := h.2 hc
      refine e3_K [0] 16 [(2, 40), (0, l1)] [(2, 40)] (H1) (G2) (wZ L xs) (M := tbM231) rfl rfl trivial ?_
      refine e3_call (o := 0) (k := 201) (M2 := tbM201) (f1 := 3) (w1 := 67) (as := [(2, 40)]) (rest := []) (M := tbM231) rfl rfl rfl trivial (Nat.le_of_ble_eq_true rfl) (Nat.le_of_ble_eq_true rfl) (Nat.le_of_ble_eq_true rfl) ?_
      refine e3_mono (sM_next L xs _ _ _ h) (fun r H4 G5 h => ?_)
      obtain ⟨rfl, h⟩ := h
      change e3_Ev _ _ _ _ 19 [(2, 40), (0, l1)] [] H4 G5 _
      refine e3_K [0, 2, 0] 24 [(2, 40), (0, l1)] [(0, 1), (0, (H4 40 3))] (H4) (G5) (wZ L xs) (M := tbM231) rfl rfl ⟨trivial, trivial⟩ ?_
      refine e3_br (M := tbM231) rfl rfl rfl Iff.rfl (fun hc => ?_) (fun hc => ?_)
      · replace h := h.1 hc
        obtain ⟨o7, h⟩ := h
        refine e3_K [0, 4, 0, 0, 0, 4, 0, 2] 47 [(2, 40), (0, l1)] [(0, (H4 47 l1)), (2, 40), (0, l1), (2, 54)] (H4) (G5) (wZ L xs) (M := tbM231) rfl rfl ⟨trivial, trivial, o7, trivial⟩ ?_
        refine e3_call (o := 0) (k := 226) (M2 := tbM226) (f1 := 1) (w1 := 24) (as := [(2, 40), (0, (H4 47 l1))]) (rest := [(0, l1), (2, 54)]) (M := tbM231) rfl rfl rfl trivial (Nat.le_of_ble_eq_true rfl) (Nat.le_of_ble_eq_true rfl) (Nat.le_of_ble_eq_true rfl) ?_
        refine e3_mono (sM_binds L xs _ _ _ _ h) (fun r H8 G9 h => ?_)
        obtain ⟨x10, rfl, h⟩ := h
        change e3_Ev _ _ _ _ 50 [(2, 40), (0, l1)] [(0, x10), (0, l1), (2, 54)] H8 G9 _
        obtain ⟨o12, h⟩ := h
        refine e3_K [2] 51 [(2, 40), (0, l1)] [] (e3_up H8 54 l1 x10) (G9) (wZ L xs) (M := tbM231) rfl rfl ⟨o12, trivial⟩ ?_
        generalize hH11 : (e3_up H8 54 l1 x10) = H11
        replace h := h H11 hH11.symm
        refine e3_fgt [true, false] ?_
        exact sM_readAs_51 L xs Q _ _ h
      · replace h := h.2 hc
        refine e3_K [0, 0] 29 [(2, 40), (0, l1)] [(0, 2), (2, 40)] (H4) (G5) (wZ L xs) (M := tbM231) rfl rfl trivial ?_
        refine e3_call (o := 0) (k := 209) (M2 := tbM209) (f1 := 1) (w1 := 22) (as := [(2, 40), (0, 2)]) (rest := []) (M := tbM231) rfl rfl rfl trivial (Nat.le_of_ble_eq_true rfl) (Nat.le_of_ble_eq_true rfl) (Nat.le_of_ble_eq_true rfl) ?_
        refine e3_mono (sM_stop L xs _ _ _ _ h) (fun r H13 G14 h => ?_)
        obtain ⟨rfl, h⟩ := h
        change e3_Ev _ _ _ _ 32 [(2, 40), (0, l1)] [] H13 G14 _
        refine e3_K [0] 51 [(2, 40), (0, l1)] [] (H13) (G14) (wZ L xs) (M := tbM231) rfl rfl trivial ?_
        refine e3_fgt [true, false] ?_
        exact sM_readAs_51 L xs Q _ _ h
  · replace h := h.2 hc
    refine e3_fgt [false, false] ?_
    exact sM_readAs_62 L xs Q _ _ h
/-- LetterPostModel.comesInto(I)V -/
def wM_comesInto_122 (Q : e3_H → e3_G → Prop) (l1 : Int) (l2 : Int) (H : e3_H) (G : e3_G) : Prop :=
  ((0 : Int) ≤ l2 ∧ (l2 : Int) < 8) ∧ ∀ H1 : e3_H, H1 = e3_up H 61 l2 l1 → ((0 : Int) ≤ l2 ∧ (l2 : Int) < 8) ∧ ((0 : Int) ≤ l2 ∧ (l2 : Int) < 8) ∧ ∀ H3 : e3_H, H3 = e3_up H1 60 l2 (e3_w32 ((H1 60 l2) + 1)) → Q H3 G
def wM_comesInto_121 (Q : e3_H → e3_G → Prop) (l1 : Int) (l2 : Int) (s0 : Int) (s1 : Int) (H : e3_H) (G : e3_G) : Prop :=
  ((0 : Int) ≤ s1 ∧ (s1 : Int) < 1700) ∧ ∀ H1 : e3_H, H1 = e3_up H 55 s1 s0 → (wM_comesInto_122 Q l1 l2 H1 G)
def wM_comesInto_98 (Q : e3_H → e3_G → Prop) (l1 : Int) (l2 : Int) (l3 : Int) (s0 : Int) (H : e3_H) (G : e3_G) : Prop :=
  (((1000 : Int) < s0 → (wM_comesInto_121 Q l1 l2 1000 l3 H G)) ∧ (¬ ((1000 : Int) < s0) → (wM_comesInto_121 Q l1 l2 s0 l3 H G)))
def wM_comesInto (Q : e3_H → e3_G → Prop) (l1 : Int) (H : e3_H) (G : e3_G) : Prop :=
  ((0 : Int) ≤ (e3_w32 ((H 40 32) - 1)) ∧ ((e3_w32 ((H 40 32) - 1)) : Int) < 8) ∧ ((0 : Int) ≤ (e3_w32 ((H 40 32) - 1)) ∧ ((e3_w32 ((H 40 32) - 1)) : Int) < 8) ∧ ((((H 61 (e3_w32 ((H 40 32) - 1))) : Int) = (-4) → ((0 : Int) ≤ (H 59 (e3_w32 ((H 40 32) - 1))) ∧ ((H 59 (e3_w32 ((H 40 32) - 1))) : Int) < 1700) ∧ ∀ H3 : e3_H, H3 = e3_up H 51 (H 59 (e3_w32 ((H 40 32) - 1))) l1 → ((0 : Int) ≤ l1 ∧ (l1 : Int) < 1700) ∧ ((0 : Int) ≤ (H 59 (e3_w32 ((H 40 32) - 1))) ∧ ((H 59 (e3_w32 ((H 40 32) - 1))) : Int) < 1700) ∧ ∀ H5 : e3_H, H5 = e3_up H3 55 (H 59 (e3_w32 ((H 40 32) - 1))) (H3 55 l1) → (wM_comesInto_122 Q l1 (e3_w32 ((H 40 32) - 1)) H5 G)) ∧ (¬ (((H 61 (e3_w32 ((H 40 32) - 1))) : Int) = (-4)) → ((0 : Int) ≤ (e3_w32 ((H 40 32) - 1)) ∧ ((e3_w32 ((H 40 32) - 1)) : Int) < 8) ∧ ((0 : Int) ≤ (H 61 (e3_w32 ((H 40 32) - 1))) ∧ ((H 61 (e3_w32 ((H 40 32) - 1))) : Int) < 1700) ∧ ∀ H8 : e3_H, H8 = e3_up H 52 (H 61 (e3_w32 ((H 40 32) - 1))) l1 → ((0 : Int) ≤ (H 59 (e3_w32 ((H 40 32) - 1))) ∧ ((H 59 (e3_w32 ((H 40 32) - 1))) : Int) < 1700) ∧ ((((H8 46 (H 59 (e3_w32 ((H 40 32) - 1)))) : Int) = 5 → ((0 : Int) ≤ (H 59 (e3_w32 ((H 40 32) - 1))) ∧ ((H 59 (e3_w32 ((H 40 32) - 1))) : Int) < 1700) ∧ ((0 : Int) ≤ l1 ∧ (l1 : Int) < 1700) ∧ (wM_comesInto_98 Q l1 (e3_w32 ((H 40 32) - 1)) (H 59 (e3_w32 ((H 40 32) - 1))) (e3_w32 ((H8 55 (H 59 (e3_w32 ((H 40 32) - 1)))) * (H8 55 l1))) H8 G)) ∧ (¬ (((H8 46 (H 59 (e3_w32 ((H 40 32) - 1)))) : Int) = 5) → ((0 : Int) ≤ (H 59 (e3_w32 ((H 40 32) - 1))) ∧ ((H 59 (e3_w32 ((H 40 32) - 1))) : Int) < 1700) ∧ ((0 : Int) ≤ l1 ∧ (l1 : Int) < 1700) ∧ (wM_comesInto_98 Q l1 (e3_w32 ((H 40 32) - 1)) (H 59 (e3_w32 ((H 40 32) - 1))) (e3_w32 ((H8 55 (H 59 (e3_w32 ((H 40 32) - 1)))) + (H8 55 l1))) H8 G)))))
set_option maxRecDepth 100000 in
set_option maxHeartbeats 4000000 in
theorem sM_comesInto_122 (L : Nat) (xs : Nat → Int32) (Q : e3_H → e3_G → Prop) (l1 : Int) (l2 : Int) (H : e3_H) (G : e3_G) (h : wM_comesInto_122 Q l1 l2 H G) : e3_Ev (wB L xs) 0 0 232 122 [(2, 40), (0, l1), (0, l2), (3, 0), (3, 0)] [] H G (e3_qv Q) := by
  unfold wM_comesInto_122 at h
  obtain ⟨o2, h⟩ := h
  refine e3_K [0, 4, 0, 0, 2] 129 [(2, 40), (0, l1), (0, l2), (3, 0), (3, 0)] [] (e3_up H 61 l2 l1) (G) (wZ L xs) (M := tbM232) rfl rfl ⟨trivial, o2, trivial⟩ ?_
  generalize hH1 : (e3_up H 61 l2 l1) = H1
  replace h := h H1 hH1.symm
  obtain ⟨o4, o5, h⟩ := h
  refine e3_K [0, 4, 0, 0, 2, 0, 0, 2] 139 [(2, 40), (0, l1), (0, l2), (3, 0), (3, 0)] [] (e3_up H1 60 l2 (e3_w32 ((H1 60 l2) + 1))) (G) (wZ L xs) (M := tbM232) rfl rfl ⟨trivial, o4, o5, trivial⟩ ?_
  generalize hH3 : (e3_up H1 60 l2 (e3_w32 ((H1 60 l2) + 1))) = H3
  replace h := h H3 hH3.symm
  exact e3_retv (M := tbM232) rfl rfl rfl ⟨rfl, h⟩
set_option maxRecDepth 100000 in
set_option maxHeartbeats 4000000 in
theorem sM_comesInto_121 (L : Nat) (xs : Nat → Int32) (Q : e3_H → e3_G → Prop) (l1 : Int) (l2 : Int) (s0 : Int) (s1 : Int) (H : e3_H) (G : e3_G) (h : wM_comesInto_121 Q l1 l2 s0 s1 H G) : e3_Ev (wB L xs) 0 0 232 121 [(2, 40), (0, l1), (0, l2), (3, 0), (3, 0)] [(0, s0), (0, s1), (2, 55)] H G (e3_qv Q) := by
  unfold wM_comesInto_121 at h
  obtain ⟨o2, h⟩ := h
  refine e3_K [2] 122 [(2, 40), (0, l1), (0, l2), (3, 0), (3, 0)] [] (e3_up H 55 s1 s0) (G) (wZ L xs) (M := tbM232) rfl rfl ⟨o2, trivial⟩ ?_
  generalize hH1 : (e3_up H 55 s1 s0) = H1
  replace h := h H1 hH1.symm
  exact sM_comesInto_122 L xs Q _ _ _ _ h
set_option maxRecDepth 100000 in
set_option maxHeartbeats 4000000 in
theorem sM_comesInto_98 (L : Nat) (xs : Nat → Int32) (Q : e3_H → e3_G → Prop) (l1 : Int) (l2 : Int) (l3 : Int) (s0 : Int) (H : e3_H) (G : e3_G) (h : wM_comesInto_98 Q l1 l2 l3 s0 H G) : e3_Ev (wB L xs) 0 0 232 98 [(2, 40), (0, l1), (0, l2), (0, l3), (3, 0)] [(0, s0)] H G (e3_qv Q) := by
  unfold wM_comesInto_98 at h
  refine e3_K [0, 0, 4, 0, 0, 0] 110 [(2, 40), (0, l1), (0, l2), (0, l3), (0, s0)] [(0, 1000), (0, s0), (0, l3), (2, 55)] (H) (G) (wZ L xs) (M := tbM232) rfl rfl ⟨trivial, trivial⟩ ?_
  refine e3_br (M := tbM232) rfl rfl rfl Iff.rfl (fun hc => ?_) (fun hc => ?_)
  · replace h := h.1 hc
    refine e3_K [0, 0] 121 [(2, 40), (0, l1), (0, l2), (0, l3), (0, s0)] [(0, 1000), (0, l3), (2, 55)] (H) (G) (wZ L xs) (M := tbM232) rfl rfl trivial ?_
    refine e3_fgt [true, true, true, false, false] ?_
    exact sM_comesInto_121 L xs Q _ _ _ _ _ _ h
  · replace h := h.2 hc
    refine e3_K [0] 121 [(2, 40), (0, l1), (0, l2), (0, l3), (0, s0)] [(0, s0), (0, l3), (2, 55)] (H) (G) (wZ L xs) (M := tbM232) rfl rfl trivial ?_
    refine e3_fgt [true, true, true, false, false] ?_
    exact sM_comesInto_121 L xs Q _ _ _ _ _ _ h
set_option maxRecDepth 100000 in
set_option maxHeartbeats 4000000 in
theorem sM_comesInto (L : Nat) (xs : Nat → Int32) (Q : e3_H → e3_G → Prop) (l1 : Int) (H : e3_H) (G : e3_G) (h : wM_comesInto Q l1 H G) : e3_Ev (wB L xs) 0 0 232 0 [(2, 40), (0, l1), (3, 0), (3, 0), (3, 0)] [] H G (e3_qv Q) := by
  unfold wM_comesInto at h
  obtain ⟨o1, o2, h⟩ := h
  refine e3_K [0, 2, 0, 0, 0, 0, 4, 0, 2, 0, 0, 4, 0, 2, 0] 22 [(2, 40), (0, l1), (0, (e3_w32 ((H 40 32) - 1))), (0, (H 59 (e3_w32 ((H 40 32) - 1)))), (3, 0)] [(0, (-4)), (0, (H 61 (e3_w32 ((H 40 32) - 1))))] (H) (G) (wZ L xs) (M := tbM232) rfl rfl ⟨trivial, trivial, o1, trivial, o2, trivial⟩ ?_
  refine e3_br (M := tbM232) rfl rfl rfl Iff.rfl (fun hc => ?_) (fun hc => ?_)
  · replace h := h.1 hc
    obtain ⟨o4, h⟩ := h
    refine e3_K [0, 4, 0, 0, 2] 32 [(2, 40), (0, l1), (0, (e3_w32 ((H 40 32) - 1))), (0, (H 59 (e3_w32 ((H 40 32) - 1)))), (3, 0)] [] (e3_up H 51 (H 59 (e3_w32 ((H 40 32) - 1))) l1) (G) (wZ L xs) (M := tbM232) rfl rfl ⟨trivial, o4, trivial⟩ ?_
    generalize hH3 : (e3_up H 51 (H 59 (e3_w32 ((H 40 32) - 1))) l1) = H3
    replace h := h H3 hH3.symm
    obtain ⟨o6, o7, h⟩ := h
    refine e3_K [0, 4, 0, 0, 4, 0, 2, 2] 44 [(2, 40), (0, l1), (0, (e3_w32 ((H 40 32) - 1))), (0, (H 59 (e3_w32 ((H 40 32) - 1)))), (3, 0)] [] (e3_up H3 55 (H 59 (e3_w32 ((H 40 32) - 1))) (H3 55 l1)) (G) (wZ L xs) (M := tbM232) rfl rfl ⟨trivial, trivial, o6, o7, trivial⟩ ?_
    generalize hH5 : (e3_up H3 55 (H 59 (e3_w32 ((H 40 32) - 1))) (H3 55 l1)) = H5
    replace h := h H5 hH5.symm
    refine e3_K [0] 122 [(2, 40), (0, l1), (0, (e3_w32 ((H 40 32) - 1))), (0, (H 59 (e3_w32 ((H 40 32) - 1)))), (3, 0)] [] (H5) (G) (wZ L xs) (M := tbM232) rfl rfl trivial ?_
    refine e3_fgt [true, true, true, false, false] ?_
    exact sM_comesInto_122 L xs Q _ _ _ _ h
  · replace h := h.2 hc
    obtain ⟨o9, o10, h⟩ := h
    refine e3_K [0, 4, 0, 4, 0, 2, 0, 2] 59 [(2, 40), (0, l1), (0, (e3_w32 ((H 40 32) - 1))), (0, (H 59 (e3_w32 ((H 40 32) - 1)))), (3, 0)] [] (e3_up H 52 (H 61 (e3_w32 ((H 40 32) - 1))) l1) (G) (wZ L xs) (M := tbM232) rfl rfl ⟨trivial, trivial, o9, o10, trivial⟩ ?_
    generalize hH8 : (e3_up H 52 (H 61 (e3_w32 ((H 40 32) - 1))) l1) = H8
    replace h := h H8 hH8.symm
    obtain ⟨o11, h⟩ := h
    refine e3_K [0, 4, 0, 2, 0] 66 [(2, 40), (0, l1), (0, (e3_w32 ((H 40 32) - 1))), (0, (H 59 (e3_w32 ((H 40 32) - 1)))), (3, 0)] [(0, 5), (0, (H8 46 (H 59 (e3_w32 ((H 40 32) - 1)))))] (H8) (G) (wZ L xs) (M := tbM232) rfl rfl ⟨trivial, o11, trivial⟩ ?_
    refine e3_br (M := tbM232) rfl rfl rfl Iff.rfl (fun hc => ?_) (fun hc => ?_)
    · replace h := h.1 hc
      obtain ⟨o12, o13, h⟩ := h
      refine e3_K [0, 4, 0, 2, 0, 4, 0, 2, 0, 0] 98 [(2, 40), (0, l1), (0, (e3_w32 ((H 40 32) - 1))), (0, (H 59 (e3_w32 ((H 40 32) - 1)))), (3, 0)] [(0, (e3_w32 ((H8 55 (H 59 (e3_w32 ((H 40 32) - 1)))) * (H8 55 l1))))] (H8) (G) (wZ L xs) (M := tbM232) rfl rfl ⟨trivial, o12, trivial, o13, trivial⟩ ?_
      exact sM_comesInto_98 L xs Q _ _ _ _ _ _ h
    · replace h := h.2 hc
      obtain ⟨o14, o15, h⟩ := h
      refine e3_K [0, 4, 0, 2, 0, 4, 0, 2, 0] 98 [(2, 40), (0, l1), (0, (e3_w32 ((H 40 32) - 1))), (0, (H 59 (e3_w32 ((H 40 32) - 1)))), (3, 0)] [(0, (e3_w32 ((H8 55 (H 59 (e3_w32 ((H 40 32) - 1)))) + (H8 55 l1))))] (H8) (G) (wZ L xs) (M := tbM232) rfl rfl ⟨trivial, o14, trivial, o15, trivial⟩ ?_
      exact sM_comesInto_98 L xs Q _ _ _ _ _ _ h
/-- LetterPostModel.endsAlternative()V -/
def wM_endsAlternative_201 (Q : e3_H → e3_G → Prop)  (H : e3_H) (G : e3_G) : Prop :=
  Q H G
def wM_endsAlternative_200 (Q : e3_H → e3_G → Prop) (s0 : Int) (s1 : Int) (H : e3_H) (G : e3_G) : Prop :=
  ((0 : Int) ≤ s1 ∧ (s1 : Int) < 8) ∧ ∀ H1 : e3_H, H1 = e3_up H 65 s1 (e3_and s0 1) → (wM_endsAlternative_201 Q H1 G)
def wM_endsAlternative_195 (Q : e3_H → e3_G → Prop) (s0 : Int) (H : e3_H) (G : e3_G) : Prop :=
  (wM_endsAlternative_200 Q 1 s0 H G)
def wM_endsAlternative_170 (Q : e3_H → e3_G → Prop) (k90 : Int → Int → Int → e3_H → e3_G → Prop) (l1 : Int) (l3 : Int) (s0 : Int) (H : e3_H) (G : e3_G) : Prop :=
  (k90 l1 s0 (e3_w32 (l3 + 1)) H G)
def wM_endsAlternative_165 (Q : e3_H → e3_G → Prop) (k90 : Int → Int → Int → e3_H → e3_G → Prop) (l1 : Int) (l3 : Int) (H : e3_H) (G : e3_G) : Prop :=
  (wM_endsAlternative_170 Q k90 l1 l3 1 H G)
def wM_endsAlternative_169 (Q : e3_H → e3_G → Prop) (k90 : Int → Int → Int → e3_H → e3_G → Prop) (l1 : Int) (l3 : Int) (H : e3_H) (G : e3_G) : Prop :=
  (wM_endsAlternative_170 Q k90 l1 l3 0 H G)
def wM_endsAlternative_126 (Q : e3_H → e3_G → Prop) (k90 : Int → Int → Int → e3_H → e3_G → Prop) (l1 : Int) (l2 : Int) (l3 : Int) (s0 : Int) (H : e3_H) (G : e3_G) : Prop :=
  (((l2 : Int) = 0 → (((s0 : Int) = 0 → (wM_endsAlternative_169 Q k90 l1 l3 H G)) ∧ (¬ ((s0 : Int) = 0) → ((0 : Int) ≤ (e3_w32 ((e3_w32 (8 * l1)) + l3)) ∧ ((e3_w32 ((e3_w32 (8 * l1)) + l3)) : Int) < 64) ∧ ((0 : Int) ≤ (e3_w32 ((e3_w32 (8 * (H 40 27))) + l3)) ∧ ((e3_w32 ((e3_w32 (8 * (H 40 27))) + l3)) : Int) < 1536) ∧ ((((H 66 (e3_w32 ((e3_w32 (8 * l1)) + l3))) : Int) = (H 58 (e3_w32 ((e3_w32 (8 * (H 40 27))) + l3))) → (wM_endsAlternative_169 Q k90 l1 l3 H G)) ∧ (¬ (((H 66 (e3_w32 ((e3_w32 (8 * l1)) + l3))) : Int) = (H 58 (e3_w32 ((e3_w32 (8 * (H 40 27))) + l3)))) → (wM_endsAlternative_165 Q k90 l1 l3 H G)))))) ∧ (¬ ((l2 : Int) = 0) → (wM_endsAlternative_165 Q k90 l1 l3 H G)))
def wM_endsAlternative_125 (Q : e3_H → e3_G → Prop) (k90 : Int → Int → Int → e3_H → e3_G → Prop) (l1 : Int) (l2 : Int) (l3 : Int) (H : e3_H) (G : e3_G) : Prop :=
  (wM_endsAlternative_126 Q k90 l1 l2 l3 0 H G)
def wM_endsAlternative_90 (Q : e3_H → e3_G → Prop) : Nat → Int → Int → Int → e3_H → e3_G → Prop
  | 0, _, _, _, _, _ => False
  | nn + 1, l1, l2, l3, H, G => (((l3 : Int) < 8 → ((((e3_and (e3_shr (H 40 31) l3) 1) : Int) = 1 → ((0 : Int) ≤ l1 ∧ (l1 : Int) < 8) ∧ ((((e3_and (e3_shr (H 63 l1) l3) 1) : Int) = 0 → (wM_endsAlternative_126 Q (fun l1 l2 l3 H G => wM_endsAlternative_90 Q nn l1 l2 l3 H G) l1 l2 l3 1 H G)) ∧ (¬ (((e3_and (e3_shr (H 63 l1) l3) 1) : Int) = 0) → (wM_endsAlternative_125 Q (fun l1 l2 l3 H G => wM_endsAlternative_90 Q nn l1 l2 l3 H G) l1 l2 l3 H G)))) ∧ (¬ (((e3_and (e3_shr (H 40 31) l3) 1) : Int) = 1) → (wM_endsAlternative_125 Q (fun l1 l2 l3 H G => wM_endsAlternative_90 Q nn l1 l2 l3 H G) l1 l2 l3 H G)))) ∧ (¬ ((l3 : Int) < 8) → ((0 : Int) ≤ l1 ∧ (l1 : Int) < 8) ∧ ((((H 65 l1) : Int) = 0 → (((l2 : Int) = 0 → (wM_endsAlternative_200 Q 0 l1 H G)) ∧ (¬ ((l2 : Int) = 0) → (wM_endsAlternative_195 Q l1 H G)))) ∧ (¬ (((H 65 l1) : Int) = 0) → (wM_endsAlternative_195 Q l1 H G)))))
def wM_endsAlternative_87 (Q : e3_H → e3_G → Prop) (l1 : Int) (s0 : Int) (H : e3_H) (G : e3_G) : Prop :=
  (∃ n, wM_endsAlternative_90 Q n l1 s0 0 H G)
def wM_endsAlternative_29 (Q : e3_H → e3_G → Prop) : Nat → Int → Int → e3_H → e3_G → Prop
  | 0, _, _, _, _ => False
  | nn + 1, l1, l2, H, G => (((l2 : Int) < 8 → ((0 : Int) ≤ (e3_w32 ((e3_w32 (8 * (H 40 27))) + l2)) ∧ ((e3_w32 ((e3_w32 (8 * (H 40 27))) + l2)) : Int) < 1536) ∧ ((0 : Int) ≤ (e3_w32 ((e3_w32 (8 * l1)) + l2)) ∧ ((e3_w32 ((e3_w32 (8 * l1)) + l2)) : Int) < 64) ∧ ∀ H1 : e3_H, H1 = e3_up H 66 (e3_w32 ((e3_w32 (8 * l1)) + l2)) (H 58 (e3_w32 ((e3_w32 (8 * (H 40 27))) + l2))) → (wM_endsAlternative_29 Q nn l1 (e3_w32 (l2 + 1)) H1 G)) ∧ (¬ ((l2 : Int) < 8) → (wM_endsAlternative_201 Q H G)))
def wM_endsAlternative (Q : e3_H → e3_G → Prop)  (H : e3_H) (G : e3_G) : Prop :=
  ((0 : Int) ≤ (e3_w32 ((H 40 32) - 1)) ∧ ((e3_w32 ((H 40 32) - 1)) : Int) < 8) ∧ ((((H 60 (e3_w32 ((H 40 32) - 1))) : Int) = 1 → ((0 : Int) ≤ (e3_w32 ((H 40 32) - 1)) ∧ ((e3_w32 ((H 40 32) - 1)) : Int) < 8) ∧ ∀ H2 : e3_H, H2 = e3_up H 64 (e3_w32 ((H 40 32) - 1)) (H 40 31) → (∃ n, wM_endsAlternative_29 Q n (e3_w32 ((H 40 32) - 1)) 0 H2 G)) ∧ (¬ (((H 60 (e3_w32 ((H 40 32) - 1))) : Int) = 1) → ((0 : Int) ≤ (e3_w32 ((H 40 32) - 1)) ∧ ((e3_w32 ((H 40 32) - 1)) : Int) < 8) ∧ ((((H 40 31) : Int) = (H 64 (e3_w32 ((H 40 32) - 1))) → (wM_endsAlternative_87 Q (e3_w32 ((H 40 32) - 1)) 0 H G)) ∧ (¬ (((H 40 31) : Int) = (H 64 (e3_w32 ((H 40 32) - 1)))) → (wM_endsAlternative_87 Q (e3_w32 ((H 40 32) - 1)) 1 H G)))))
set_option maxRecDepth 100000 in
set_option maxHeartbeats 4000000 in
theorem sM_endsAlternative_201 (L : Nat) (xs : Nat → Int32) (Q : e3_H → e3_G → Prop)  (H : e3_H) (G : e3_G) (h : wM_endsAlternative_201 Q  H G) : e3_Ev (wB L xs) 0 0 234 201 [(3, 0), (3, 0), (3, 0), (3, 0), (3, 0)] [] H G (e3_qv Q) := by
  unfold wM_endsAlternative_201 at h
  exact e3_retv (M := tbM234) rfl rfl rfl ⟨rfl, h⟩
set_option maxRecDepth 100000 in
set_option maxHeartbeats 4000000 in
theorem sM_endsAlternative_200 (L : Nat) (xs : Nat → Int32) (Q : e3_H → e3_G → Prop) (s0 : Int) (s1 : Int) (H : e3_H) (G : e3_G) (h : wM_endsAlternative_200 Q s0 s1 H G) : e3_Ev (wB L xs) 0 0 234 200 [(3, 0), (3, 0), (3, 0), (3, 0), (3, 0)] [(0, s0), (0, s1), (2, 65)] H G (e3_qv Q) := by
  unfold wM_endsAlternative_200 at h
  obtain ⟨o2, h⟩ := h
  refine e3_K [2] 201 [(3, 0), (3, 0), (3, 0), (3, 0), (3, 0)] [] (e3_up H 65 s1 (e3_and s0 1)) (G) (wZ L xs) (M := tbM234) rfl rfl ⟨o2, trivial⟩ ?_
  generalize hH1 : (e3_up H 65 s1 (e3_and s0 1)) = H1
  replace h := h H1 hH1.symm
  exact sM_endsAlternative_201 L xs Q _ _ h
set_option maxRecDepth 100000 in
set_option maxHeartbeats 4000000 in
theorem sM_endsAlternative_195 (L : Nat) (xs : Nat → Int32) (Q : e3_H → e3_G → Prop) (s0 : Int) (H : e3_H) (G : e3_G) (h : wM_endsAlternative_195 Q s0 H G) : e3_Ev (wB L xs) 0 0 234 195 [(3, 0), (3, 0), (3, 0), (3, 0), (3, 0)] [(0, s0), (2, 65)] H G (e3_qv Q) := by
  unfold wM_endsAlternative_195 at h
  refine e3_K [0, 0] 200 [(3, 0), (3, 0), (3, 0), (3, 0), (3, 0)] [(0, 1), (0, s0), (2, 65)] (H) (G) (wZ L xs) (M := tbM234) rfl rfl trivial ?_
  exact sM_endsAlternative_200 L xs Q _ _ _ _ h
set_option maxRecDepth 100000 in
set_option maxHeartbeats 4000000 in
theorem sM_endsAlternative_170 (L : Nat) (xs : Nat → Int32) (Q : e3_H → e3_G → Prop) (k90 : Int → Int → Int → e3_H → e3_G → Prop) (hk90 : ∀ (l1 : Int) (l2 : Int) (l3 : Int) (H : e3_H) (G : e3_G), k90 l1 l2 l3 H G → e3_Ev (wB L xs) 0 0 234 90 [(2, 40), (0, l1), (0, l2), (0, l3), (3, 0)] [] H G (e3_qv Q)) (l1 : Int) (l3 : Int) (s0 : Int) (H : e3_H) (G : e3_G) (h : wM_endsAlternative_170 Q k90 l1 l3 s0 H G) : e3_Ev (wB L xs) 0 0 234 170 [(2, 40), (0, l1), (3, 0), (0, l3), (3, 0)] [(0, s0)] H G (e3_qv Q) := by
  unfold wM_endsAlternative_170 at h
  refine e3_K [0, 0, 0] 90 [(2, 40), (0, l1), (0, s0), (0, (e3_w32 (l3 + 1))), (3, 0)] [] (H) (G) (wZ L xs) (M := tbM234) rfl rfl trivial ?_
  exact hk90 _ _ _ _ _ h
set_option maxRecDepth 100000 in
set_option maxHeartbeats 4000000 in
theorem sM_endsAlternative_165 (L : Nat) (xs : Nat → Int32) (Q : e3_H → e3_G → Prop) (k90 : Int → Int → Int → e3_H → e3_G → Prop) (hk90 : ∀ (l1 : Int) (l2 : Int) (l3 : Int) (H : e3_H) (G : e3_G), k90 l1 l2 l3 H G → e3_Ev (wB L xs) 0 0 234 90 [(2, 40), (0, l1), (0, l2), (0, l3), (3, 0)] [] H G (e3_qv Q)) (l1 : Int) (l3 : Int) (H : e3_H) (G : e3_G) (h : wM_endsAlternative_165 Q k90 l1 l3 H G) : e3_Ev (wB L xs) 0 0 234 165 [(2, 40), (0, l1), (3, 0), (0, l3), (3, 0)] [] H G (e3_qv Q) := by
  unfold wM_endsAlternative_165 at h
  refine e3_K [0, 0] 170 [(2, 40), (0, l1), (3, 0), (0, l3), (3, 0)] [(0, 1)] (H) (G) (wZ L xs) (M := tbM234) rfl rfl trivial ?_
  exact sM_endsAlternative_170 L xs Q k90 hk90 _ _ _ _ _ h
set_option maxRecDepth 100000 in
set_option maxHeartbeats 4000000 in
theorem sM_endsAlternative_169 (L : Nat) (xs : Nat → Int32) (Q : e3_H → e3_G → Prop) (k90 : Int → Int → Int → e3_H → e3_G → Prop) (hk90 : ∀ (l1 : Int) (l2 : Int) (l3 : Int) (H : e3_H) (G : e3_G), k90 l1 l2 l3 H G → e3_Ev (wB L xs) 0 0 234 90 [(2, 40), (0, l1), (0, l2), (0, l3), (3, 0)] [] H G (e3_qv Q)) (l1 : Int) (l3 : Int) (H : e3_H) (G : e3_G) (h : wM_endsAlternative_169 Q k90 l1 l3 H G) : e3_Ev (wB L xs) 0 0 234 169 [(2, 40), (0, l1), (3, 0), (0, l3), (3, 0)] [] H G (e3_qv Q) := by
  unfold wM_endsAlternative_169 at h
  refine e3_K [0] 170 [(2, 40), (0, l1), (3, 0), (0, l3), (3, 0)] [(0, 0)] (H) (G) (wZ L xs) (M := tbM234) rfl rfl trivial ?_
  exact sM_endsAlternative_170 L xs Q k90 hk90 _ _ _ _ _ h
set_option maxRecDepth 100000 in
set_option maxHeartbeats 4000000 in
theorem sM_endsAlternative_126 (L : Nat) (xs : Nat → Int32) (Q : e3_H → e3_G → Prop) (k90 : Int → Int → Int → e3_H → e3_G → Prop) (hk90 : ∀ (l1 : Int) (l2 : Int) (l3 : Int) (H : e3_H) (G : e3_G), k90 l1 l2 l3 H G → e3_Ev (wB L xs) 0 0 234 90 [(2, 40), (0, l1), (0, l2), (0, l3), (3, 0)] [] H G (e3_qv Q)) (l1 : Int) (l2 : Int) (l3 : Int) (s0 : Int) (H : e3_H) (G : e3_G) (h : wM_endsAlternative_126 Q k90 l1 l2 l3 s0 H G) : e3_Ev (wB L xs) 0 0 234 126 [(2, 40), (0, l1), (0, l2), (0, l3), (3, 0)] [(0, s0)] H G (e3_qv Q) := by
  unfold wM_endsAlternative_126 at h
  refine e3_K [0, 0] 129 [(2, 40), (0, l1), (0, l2), (0, l3), (0, s0)] [(0, l2)] (H) (G) (wZ L xs) (M := tbM234) rfl rfl trivial ?_
  refine e3_br (M := tbM234) rfl rfl rfl Iff.rfl (fun hc => ?_) (fun hc => ?_)
  · replace h := h.1 hc
    refine e3_K [0] 134 [(2, 40), (0, l1), (0, l2), (0, l3), (0, s0)] [(0, s0)] (H) (G) (wZ L xs) (M := tbM234) rfl rfl trivial ?_
    refine e3_br (M := tbM234) rfl rfl rfl Iff.rfl (fun hc => ?_) (fun hc => ?_)
    · replace h := h.1 hc
      refine e3_fgt [true, true, false, true, false] ?_
      exact sM_endsAlternative_169 L xs Q k90 hk90 _ _ _ _ h
    · replace h := h.2 hc
      obtain ⟨o1, o2, h⟩ := h
      refine e3_K [0, 4, 0, 0, 0, 0, 0, 2, 0, 4, 0, 0, 2, 0, 0, 0, 2] 162 [(2, 40), (0, l1), (0, l2), (0, l3), (0, s0)] [(0, (H 58 (e3_w32 ((e3_w32 (8 * (H 40 27))) + l3)))), (0, (H 66 (e3_w32 ((e3_w32 (8 * l1)) + l3))))] (H) (G) (wZ L xs) (M := tbM234) rfl rfl ⟨trivial, o1, trivial, trivial, o2, trivial⟩ ?_
      refine e3_br (M := tbM234) rfl rfl rfl Iff.rfl (fun hc => ?_) (fun hc => ?_)
      · replace h := h.1 hc
        refine e3_fgt [true, true, false, true, false] ?_
        exact sM_endsAlternative_169 L xs Q k90 hk90 _ _ _ _ h
      · replace h := h.2 hc
        refine e3_fgt [true, true, false, true, false] ?_
        exact sM_endsAlternative_165 L xs Q k90 hk90 _ _ _ _ h
  · replace h := h.2 hc
    refine e3_fgt [true, true, false, true, false] ?_
    exact sM_endsAlternative_165 L xs Q k90 hk90 _ _ _ _ h
set_option maxRecDepth 100000 in
set_option maxHeartbeats 4000000 in
theorem sM_endsAlternative_125 (L : Nat) (xs : Nat → Int32) (Q : e3_H → e3_G → Prop) (k90 : Int → Int → Int → e3_H → e3_G → Prop) (hk90 : ∀ (l1 : Int) (l2 : Int) (l3 : Int) (H : e3_H) (G : e3_G), k90 l1 l2 l3 H G → e3_Ev (wB L xs) 0 0 234 90 [(2, 40), (0, l1), (0, l2), (0, l3), (3, 0)] [] H G (e3_qv Q)) (l1 : Int) (l2 : Int) (l3 : Int) (H : e3_H) (G : e3_G) (h : wM_endsAlternative_125 Q k90 l1 l2 l3 H G) : e3_Ev (wB L xs) 0 0 234 125 [(2, 40), (0, l1), (0, l2), (0, l3), (3, 0)] [] H G (e3_qv Q) := by
  unfold wM_endsAlternative_125 at h
  refine e3_K [0] 126 [(2, 40), (0, l1), (0, l2), (0, l3), (3, 0)] [(0, 0)] (H) (G) (wZ L xs) (M := tbM234) rfl rfl trivial ?_
  exact sM_endsAlternative_126 L xs Q k90 hk90 _ _ _ _ _ _ h
set_option maxRecDepth 100000 in
set_option maxHeartbeats 4000000 in
theorem sM_endsAlternative_90 (L : Nat) (xs : Nat → Int32) (Q : e3_H → e3_G → Prop) : ∀ (nl : Nat) (l1 : Int) (l2 : Int) (l3 : Int) (H : e3_H) (G : e3_G), wM_endsAlternative_90 Q nl l1 l2 l3 H G → e3_Ev (wB L xs) 0 0 234 90 [(2, 40), (0, l1), (0, l2), (0, l3), (3, 0)] [] H G (e3_qv Q) := by
  intro nl
  induction nl with
  | zero => intro l1 l2 l3 H G h; exact h.elim
  | succ nn ih =>
    intro l1 l2 l3 H G h
    have h : (((l3 : Int) < 8 → ((((e3_and (e3_shr (H 40 31) l3) 1) : Int) = 1 → ((0 : Int) ≤ l1 ∧ (l1 : Int) < 8) ∧ ((((e3_and (e3_shr (H 63 l1) l3) 1) : Int) = 0 → (wM_endsAlternative_126 Q (fun l1 l2 l3 H G => wM_endsAlternative_90 Q nn l1 l2 l3 H G) l1 l2 l3 1 H G)) ∧ (¬ (((e3_and (e3_shr (H 63 l1) l3) 1) : Int) = 0) → (wM_endsAlternative_125 Q (fun l1 l2 l3 H G => wM_endsAlternative_90 Q nn l1 l2 l3 H G) l1 l2 l3 H G)))) ∧ (¬ (((e3_and (e3_shr (H 40 31) l3) 1) : Int) = 1) → (wM_endsAlternative_125 Q (fun l1 l2 l3 H G => wM_endsAlternative_90 Q nn l1 l2 l3 H G) l1 l2 l3 H G)))) ∧ (¬ ((l3 : Int) < 8) → ((0 : Int) ≤ l1 ∧ (l1 : Int) < 8) ∧ ((((H 65 l1) : Int) = 0 → (((l2 : Int) = 0 → (wM_endsAlternative_200 Q 0 l1 H G)) ∧ (¬ ((l2 : Int) = 0) → (wM_endsAlternative_195 Q l1 H G)))) ∧ (¬ (((H 65 l1) : Int) = 0) → (wM_endsAlternative_195 Q l1 H G))))) := h
    refine e3_K [0, 0] 93 [(2, 40), (0, l1), (0, l2), (0, l3), (3, 0)] [(0, 8), (0, l3)] (H) (G) (wZ L xs) (M := tbM234) rfl rfl trivial ?_
    refine e3_br (M := tbM234) rfl rfl rfl Iff.rfl (fun hc => ?_) (fun hc => ?_)
    · replace h := h.1 hc
      refine e3_K [0, 2, 0, 0, 0, 0, 0] 105 [(2, 40), (0, l1), (0, l2), (0, l3), (3, 0)] [(0, 1), (0, (e3_and (e3_shr (H 40 31) l3) 1))] (H) (G) (wZ L xs) (M := tbM234) rfl rfl ⟨trivial, trivial⟩ ?_
      refine e3_br (M := tbM234) rfl rfl rfl Iff.rfl (fun hc => ?_) (fun hc => ?_)
      · replace h := h.1 hc
        obtain ⟨o1, h⟩ := h
        refine e3_K [0, 4, 0, 2, 0, 0, 0, 0] 118 [(2, 40), (0, l1), (0, l2), (0, l3), (3, 0)] [(0, (e3_and (e3_shr (H 63 l1) l3) 1))] (H) (G) (wZ L xs) (M := tbM234) rfl rfl ⟨trivial, o1, trivial⟩ ?_
        refine e3_br (M := tbM234) rfl rfl rfl Iff.rfl (fun hc => ?_) (fun hc => ?_)
        · replace h := h.1 hc
          refine e3_K [0, 0] 126 [(2, 40), (0, l1), (0, l2), (0, l3), (3, 0)] [(0, 1)] (H) (G) (wZ L xs) (M := tbM234) rfl rfl trivial ?_
          exact sM_endsAlternative_126 L xs Q (fun l1 l2 l3 H G => wM_endsAlternative_90 Q nn l1 l2 l3 H G) ih _ _ _ _ _ _ h
        · replace h := h.2 hc
          exact sM_endsAlternative_125 L xs Q (fun l1 l2 l3 H G => wM_endsAlternative_90 Q nn l1 l2 l3 H G) ih _ _ _ _ _ h
      · replace h := h.2 hc
        exact sM_endsAlternative_125 L xs Q (fun l1 l2 l3 H G => wM_endsAlternative_90 Q nn l1 l2 l3 H G) ih _ _ _ _ _ h
    · replace h := h.2 hc
      obtain ⟨o2, h⟩ := h
      refine e3_K [0, 4, 0, 0, 4, 0, 2] 188 [(2, 40), (0, l1), (0, l2), (0, l3), (3, 0)] [(0, (H 65 l1)), (0, l1), (2, 65)] (H) (G) (wZ L xs) (M := tbM234) rfl rfl ⟨trivial, trivial, o2, trivial⟩ ?_
      refine e3_br (M := tbM234) rfl rfl rfl Iff.rfl (fun hc => ?_) (fun hc => ?_)
      · replace h := h.1 hc
        refine e3_K [0] 192 [(2, 40), (0, l1), (0, l2), (0, l3), (3, 0)] [(0, l2), (0, l1), (2, 65)] (H) (G) (wZ L xs) (M := tbM234) rfl rfl trivial ?_
        refine e3_br (M := tbM234) rfl rfl rfl Iff.rfl (fun hc => ?_) (fun hc => ?_)
        · replace h := h.1 hc
          refine e3_K [0] 200 [(2, 40), (0, l1), (0, l2), (0, l3), (3, 0)] [(0, 0), (0, l1), (2, 65)] (H) (G) (wZ L xs) (M := tbM234) rfl rfl trivial ?_
          refine e3_fgt [false, false, false, false, false] ?_
          exact sM_endsAlternative_200 L xs Q _ _ _ _ h
        · replace h := h.2 hc
          refine e3_fgt [false, false, false, false, false] ?_
          exact sM_endsAlternative_195 L xs Q _ _ _ h
      · replace h := h.2 hc
        refine e3_fgt [false, false, false, false, false] ?_
        exact sM_endsAlternative_195 L xs Q _ _ _ h
set_option maxRecDepth 100000 in
set_option maxHeartbeats 4000000 in
theorem sM_endsAlternative_87 (L : Nat) (xs : Nat → Int32) (Q : e3_H → e3_G → Prop) (l1 : Int) (s0 : Int) (H : e3_H) (G : e3_G) (h : wM_endsAlternative_87 Q l1 s0 H G) : e3_Ev (wB L xs) 0 0 234 87 [(2, 40), (0, l1), (3, 0), (3, 0), (3, 0)] [(0, s0)] H G (e3_qv Q) := by
  unfold wM_endsAlternative_87 at h
  refine e3_K [0, 0, 0] 90 [(2, 40), (0, l1), (0, s0), (0, 0), (3, 0)] [] (H) (G) (wZ L xs) (M := tbM234) rfl rfl trivial ?_
  obtain ⟨nl, h⟩ := h
  exact sM_endsAlternative_90 L xs Q nl _ _ _ _ _ h
set_option maxRecDepth 100000 in
set_option maxHeartbeats 4000000 in
theorem sM_endsAlternative_29 (L : Nat) (xs : Nat → Int32) (Q : e3_H → e3_G → Prop) : ∀ (nl : Nat) (l1 : Int) (l2 : Int) (H : e3_H) (G : e3_G), wM_endsAlternative_29 Q nl l1 l2 H G → e3_Ev (wB L xs) 0 0 234 29 [(2, 40), (0, l1), (0, l2), (3, 0), (3, 0)] [] H G (e3_qv Q) := by
  intro nl
  induction nl with
  | zero => intro l1 l2 H G h; exact h.elim
  | succ nn ih =>
    intro l1 l2 H G h
    have h : (((l2 : Int) < 8 → ((0 : Int) ≤ (e3_w32 ((e3_w32 (8 * (H 40 27))) + l2)) ∧ ((e3_w32 ((e3_w32 (8 * (H 40 27))) + l2)) : Int) < 1536) ∧ ((0 : Int) ≤ (e3_w32 ((e3_w32 (8 * l1)) + l2)) ∧ ((e3_w32 ((e3_w32 (8 * l1)) + l2)) : Int) < 64) ∧ ∀ H1 : e3_H, H1 = e3_up H 66 (e3_w32 ((e3_w32 (8 * l1)) + l2)) (H 58 (e3_w32 ((e3_w32 (8 * (H 40 27))) + l2))) → (wM_endsAlternative_29 Q nn l1 (e3_w32 (l2 + 1)) H1 G)) ∧ (¬ ((l2 : Int) < 8) → (wM_endsAlternative_201 Q H G))) := h
    refine e3_K [0, 0] 32 [(2, 40), (0, l1), (0, l2), (3, 0), (3, 0)] [(0, 8), (0, l2)] (H) (G) (wZ L xs) (M := tbM234) rfl rfl trivial ?_
    refine e3_br (M := tbM234) rfl rfl rfl Iff.rfl (fun hc => ?_) (fun hc => ?_)
    · replace h := h.1 hc
      obtain ⟨o2, o3, h⟩ := h
      refine e3_K [0, 4, 0, 0, 0, 0, 0, 0, 4, 0, 0, 2, 0, 0, 0, 2, 2] 60 [(2, 40), (0, l1), (0, l2), (3, 0), (3, 0)] [] (e3_up H 66 (e3_w32 ((e3_w32 (8 * l1)) + l2)) (H 58 (e3_w32 ((e3_w32 (8 * (H 40 27))) + l2)))) (G) (wZ L xs) (M := tbM234) rfl rfl ⟨trivial, trivial, trivial, o2, o3, trivial⟩ ?_
      generalize hH1 : (e3_up H 66 (e3_w32 ((e3_w32 (8 * l1)) + l2)) (H 58 (e3_w32 ((e3_w32 (8 * (H 40 27))) + l2)))) = H1
      replace h := h H1 hH1.symm
      refine e3_K [0, 0] 29 [(2, 40), (0, l1), (0, (e3_w32 (l2 + 1))), (3, 0), (3, 0)] [] (H1) (G) (wZ L xs) (M := tbM234) rfl rfl trivial ?_
      exact ih _ _ _ _ h
    · replace h := h.2 hc
      refine e3_K [0] 201 [(2, 40), (0, l1), (0, l2), (3, 0), (3, 0)] [] (H) (G) (wZ L xs) (M := tbM234) rfl rfl trivial ?_
      refine e3_fgt [false, false, false, false, false] ?_
      exact sM_endsAlternative_201 L xs Q _ _ h
set_option maxRecDepth 100000 in
set_option maxHeartbeats 4000000 in
theorem sM_endsAlternative (L : Nat) (xs : Nat → Int32) (Q : e3_H → e3_G → Prop)  (H : e3_H) (G : e3_G) (h : wM_endsAlternative Q  H G) : e3_Ev (wB L xs) 0 0 234 0 [(2, 40), (3, 0), (3, 0), (3, 0), (3, 0)] [] H G (e3_qv Q) := by
  unfold wM_endsAlternative at h
  obtain ⟨o1, h⟩ := h
  refine e3_K [0, 2, 0, 0, 0, 0, 4, 0, 2, 0] 14 [(2, 40), (0, (e3_w32 ((H 40 32) - 1))), (3, 0), (3, 0), (3, 0)] [(0, 1), (0, (H 60 (e3_w32 ((H 40 32) - 1))))] (H) (G) (wZ L xs) (M := tbM234) rfl rfl ⟨trivial, trivial, o1, trivial⟩ ?_
  refine e3_br (M := tbM234) rfl rfl rfl Iff.rfl (fun hc => ?_) (fun hc => ?_)
  · replace h := h.1 hc
    obtain ⟨o3, h⟩ := h
    refine e3_K [0, 4, 0, 0, 2, 2] 27 [(2, 40), (0, (e3_w32 ((H 40 32) - 1))), (3, 0), (3, 0), (3, 0)] [] (e3_up H 64 (e3_w32 ((H 40 32) - 1)) (H 40 31)) (G) (wZ L xs) (M := tbM234) rfl rfl ⟨trivial, trivial, o3, trivial⟩ ?_
    generalize hH2 : (e3_up H 64 (e3_w32 ((H 40 32) - 1)) (H 40 31)) = H2
    replace h := h H2 hH2.symm
    refine e3_K [0, 0] 29 [(2, 40), (0, (e3_w32 ((H 40 32) - 1))), (0, 0), (3, 0), (3, 0)] [] (H2) (G) (wZ L xs) (M := tbM234) rfl rfl trivial ?_
    obtain ⟨nl, h⟩ := h
    exact sM_endsAlternative_29 L xs Q nl _ _ _ _ h
  · replace h := h.2 hc
    obtain ⟨o4, h⟩ := h
    refine e3_K [0, 2, 0, 4, 0, 2] 79 [(2, 40), (0, (e3_w32 ((H 40 32) - 1))), (3, 0), (3, 0), (3, 0)] [(0, (H 64 (e3_w32 ((H 40 32) - 1)))), (0, (H 40 31))] (H) (G) (wZ L xs) (M := tbM234) rfl rfl ⟨trivial, trivial, o4, trivial⟩ ?_
    refine e3_br (M := tbM234) rfl rfl rfl Iff.rfl (fun hc => ?_) (fun hc => ?_)
    · replace h := h.1 hc
      refine e3_K [0] 87 [(2, 40), (0, (e3_w32 ((H 40 32) - 1))), (3, 0), (3, 0), (3, 0)] [(0, 0)] (H) (G) (wZ L xs) (M := tbM234) rfl rfl trivial ?_
      exact sM_endsAlternative_87 L xs Q _ _ _ _ h
    · replace h := h.2 hc
      refine e3_K [0, 0] 87 [(2, 40), (0, (e3_w32 ((H 40 32) - 1))), (3, 0), (3, 0), (3, 0)] [(0, 1)] (H) (G) (wZ L xs) (M := tbM234) rfl rfl trivial ?_
      exact sM_endsAlternative_87 L xs Q _ _ _ _ h
/-- LetterPostModel.goesOn()Z -/
def wM_goesOn_210 (Q : Int → e3_H → e3_G → Prop)  (H : e3_H) (G : e3_G) : Prop :=
  (wM_must (fun H1 G2 => Q 0 H1 G2) 41 H G)
def wM_goesOn_203 (Q : Int → e3_H → e3_G → Prop) (k160 : Int → Int → e3_H → e3_G → Prop) (l1 : Int) (l3 : Int) (s0 : Int) (s1 : Int) (H : e3_H) (G : e3_G) : Prop :=
  ((0 : Int) ≤ s1 ∧ (s1 : Int) < 1536) ∧ ∀ H1 : e3_H, H1 = e3_up H 58 s1 s0 → (k160 l1 (e3_w32 (l3 + 1)) H1 G)
def wM_goesOn_160 (Q : Int → e3_H → e3_G → Prop) : Nat → Int → Int → e3_H → e3_G → Prop
  | 0, _, _, _, _ => False
  | nn + 1, l1, l3, H, G => (((l3 : Int) < 8 → ((0 : Int) ≤ l1 ∧ (l1 : Int) < 8) ∧ (((0 : Int) < (H 60 l1) → ((0 : Int) ≤ (e3_w32 ((e3_w32 (8 * l1)) + l3)) ∧ ((e3_w32 ((e3_w32 (8 * l1)) + l3)) : Int) < 64) ∧ (wM_goesOn_203 Q (fun l1 l3 H G => wM_goesOn_160 Q nn l1 l3 H G) l1 l3 (H 66 (e3_w32 ((e3_w32 (8 * l1)) + l3))) (e3_w32 ((e3_w32 (8 * (H 40 27))) + l3)) H G)) ∧ (¬ ((0 : Int) < (H 60 l1)) → (wM_goesOn_203 Q (fun l1 l3 H G => wM_goesOn_160 Q nn l1 l3 H G) l1 l3 0 (e3_w32 ((e3_w32 (8 * (H 40 27))) + l3)) H G)))) ∧ (¬ ((l3 : Int) < 8) → (wM_goesOn_210 Q H G)))
def wM_goesOn_148 (Q : Int → e3_H → e3_G → Prop) (l1 : Int) (H : e3_H) (G : e3_G) : Prop :=
  ((0 : Int) ≤ l1 ∧ (l1 : Int) < 8) ∧ ∀ H1 : e3_H, H1 = e3_up H 40 31 (H 64 l1) → (∃ n, wM_goesOn_160 Q n l1 0 H1 G)
def wM_goesOn_85 (Q : Int → e3_H → e3_G → Prop)  (H : e3_H) (G : e3_G) : Prop :=
  (wM_must (fun H1 G2 => Q 0 H1 G2) 41 H G)
def wM_goesOn_59 (Q : Int → e3_H → e3_G → Prop)  (H : e3_H) (G : e3_G) : Prop :=
  (wM_takes (fun x3 H1 G2 => ((x3 : Int) = 0 ∨ x3 = 1) ∧ Q x3 H1 G2) 44 H G)
def wM_goesOn (Q : Int → e3_H → e3_G → Prop)  (H : e3_H) (G : e3_G) : Prop :=
  ((0 : Int) ≤ (e3_w32 ((H 40 32) - 1)) ∧ ((e3_w32 ((H 40 32) - 1)) : Int) < 8) ∧ ((0 : Int) ≤ (H 59 (e3_w32 ((H 40 32) - 1))) ∧ ((H 59 (e3_w32 ((H 40 32) - 1))) : Int) < 1700) ∧ ((((H 46 (H 59 (e3_w32 ((H 40 32) - 1)))) : Int) = 5 → ((0 : Int) ≤ (e3_w32 ((H 40 32) - 1)) ∧ ((e3_w32 ((H 40 32) - 1)) : Int) < 8) ∧ ((0 : Int) ≤ (H 59 (e3_w32 ((H 40 32) - 1))) ∧ ((H 59 (e3_w32 ((H 40 32) - 1))) : Int) < 1700) ∧ ((0 : Int) ≤ (H 48 (H 59 (e3_w32 ((H 40 32) - 1)))) ∧ ((H 48 (H 59 (e3_w32 ((H 40 32) - 1)))) : Int) < 24) ∧ ((((H 60 (e3_w32 ((H 40 32) - 1))) : Int) < (H 44 (H 48 (H 59 (e3_w32 ((H 40 32) - 1))))) → (wM_isSign (fun x8 H6 G7 => (((x8 : Int) = 0 → (wM_stop (fun H9 G10 => (wM_goesOn_59 Q H9 G10)) 6 H6 G7)) ∧ (¬ ((x8 : Int) = 0) → (wM_goesOn_59 Q H6 G7)))) 44 H G)) ∧ (¬ (((H 60 (e3_w32 ((H 40 32) - 1))) : Int) < (H 44 (H 48 (H 59 (e3_w32 ((H 40 32) - 1)))))) → (wM_isSign (fun x14 H12 G13 => (((x14 : Int) = 0 → (wM_goesOn_85 Q H12 G13)) ∧ (¬ ((x14 : Int) = 0) → (wM_fails (fun H15 G16 => (wM_goesOn_85 Q H15 G16)) 6 (H12 40 5) H12 G13)))) 44 H G)))) ∧ (¬ (((H 46 (H 59 (e3_w32 ((H 40 32) - 1)))) : Int) = 5) → (wM_endsAlternative (fun H18 G19 => (wM_takes (fun x23 H21 G22 => (((x23 : Int) = 0 → (wM_isSign (fun x26 H24 G25 => (((x26 : Int) = 0 → (wM_goesOn_210 Q H24 G25)) ∧ (¬ ((x26 : Int) = 0) → ((0 : Int) ≤ (e3_w32 ((H 40 32) - 1)) ∧ ((e3_w32 ((H 40 32) - 1)) : Int) < 8) ∧ ((((H24 65 (e3_w32 ((H 40 32) - 1))) : Int) = 0 → (wM_goesOn_148 Q (e3_w32 ((H 40 32) - 1)) H24 G25)) ∧ (¬ (((H24 65 (e3_w32 ((H 40 32) - 1))) : Int) = 0) → ((0 : Int) ≤ (e3_w32 ((H 40 32) - 1)) ∧ ((e3_w32 ((H 40 32) - 1)) : Int) < 8) ∧ (wM_fails (fun H29 G30 => (wM_goesOn_148 Q (e3_w32 ((H 40 32) - 1)) H29 G30)) 8 (H24 62 (e3_w32 ((H 40 32) - 1))) H24 G25)))))) 41 H21 G22)) ∧ (¬ ((x23 : Int) = 0) → ((0 : Int) ≤ (e3_w32 ((H 40 32) - 1)) ∧ ((e3_w32 ((H 40 32) - 1)) : Int) < 8) ∧ ∀ H32 : e3_H, H32 = e3_up H21 40 31 (H21 63 (e3_w32 ((H 40 32) - 1))) → Q 1 H32 G22))) 124 H18 G19)) H G)))
set_option maxRecDepth 100000 in
set_option maxHeartbeats 4000000 in
theorem sM_goesOn_210 (L : Nat) (xs : Nat → Int32) (Q : Int → e3_H → e3_G → Prop)  (H : e3_H) (G : e3_G) (h : wM_goesOn_210 Q  H G) : e3_Ev (wB L xs) 6 132 233 210 [(2, 40), (3, 0), (3, 0), (3, 0)] [] H G (e3_q0 Q) := by
  unfold wM_goesOn_210 at h
  refine e3_K [0, 0] 213 [(2, 40), (3, 0), (3, 0), (3, 0)] [(0, 41), (2, 40)] (H) (G) (wZ L xs) (M := tbM233) rfl rfl trivial ?_
  refine e3_call (o := 0) (k := 217) (M2 := tbM217) (f1 := 5) (w1 := 111) (as := [(2, 40), (0, 41)]) (rest := []) (M := tbM233) rfl rfl rfl trivial (Nat.le_of_ble_eq_true rfl) (Nat.le_of_ble_eq_true rfl) (Nat.le_of_ble_eq_true rfl) ?_
  refine e3_mono (sM_must L xs _ _ _ _ h) (fun r H1 G2 h => ?_)
  obtain ⟨rfl, h⟩ := h
  change e3_Ev _ _ _ _ 216 [(2, 40), (3, 0), (3, 0), (3, 0)] [] H1 G2 _
  refine e3_K [0] 217 [(2, 40), (3, 0), (3, 0), (3, 0)] [(0, 0)] (H1) (G2) (wZ L xs) (M := tbM233) rfl rfl trivial ?_
  exact e3_retb (M := tbM233) rfl rfl rfl (Or.inl rfl) ⟨_, rfl, h⟩
set_option maxRecDepth 100000 in
set_option maxHeartbeats 4000000 in
theorem sM_goesOn_203 (L : Nat) (xs : Nat → Int32) (Q : Int → e3_H → e3_G → Prop) (k160 : Int → Int → e3_H → e3_G → Prop) (hk160 : ∀ (l1 : Int) (l3 : Int) (H : e3_H) (G : e3_G), k160 l1 l3 H G → e3_Ev (wB L xs) 6 132 233 160 [(2, 40), (0, l1), (3, 0), (0, l3)] [] H G (e3_q0 Q)) (l1 : Int) (l3 : Int) (s0 : Int) (s1 : Int) (H : e3_H) (G : e3_G) (h : wM_goesOn_203 Q k160 l1 l3 s0 s1 H G) : e3_Ev (wB L xs) 6 132 233 203 [(2, 40), (0, l1), (3, 0), (0, l3)] [(0, s0), (0, s1), (2, 58)] H G (e3_q0 Q) := by
  unfold wM_goesOn_203 at h
  obtain ⟨o2, h⟩ := h
  refine e3_K [2] 204 [(2, 40), (0, l1), (3, 0), (0, l3)] [] (e3_up H 58 s1 s0) (G) (wZ L xs) (M := tbM233) rfl rfl ⟨o2, trivial⟩ ?_
  generalize hH1 : (e3_up H 58 s1 s0) = H1
  replace h := h H1 hH1.symm
  refine e3_K [0, 0] 160 [(2, 40), (0, l1), (3, 0), (0, (e3_w32 (l3 + 1)))] [] (H1) (G) (wZ L xs) (M := tbM233) rfl rfl trivial ?_
  exact hk160 _ _ _ _ h
set_option maxRecDepth 100000 in
set_option maxHeartbeats 4000000 in
theorem sM_goesOn_160 (L : Nat) (xs : Nat → Int32) (Q : Int → e3_H → e3_G → Prop) : ∀ (nl : Nat) (l1 : Int) (l3 : Int) (H : e3_H) (G : e3_G), wM_goesOn_160 Q nl l1 l3 H G → e3_Ev (wB L xs) 6 132 233 160 [(2, 40), (0, l1), (3, 0), (0, l3)] [] H G (e3_q0 Q) := by
  intro nl
  induction nl with
  | zero => intro l1 l3 H G h; exact h.elim
  | succ nn ih =>
    intro l1 l3 H G h
    have h : (((l3 : Int) < 8 → ((0 : Int) ≤ l1 ∧ (l1 : Int) < 8) ∧ (((0 : Int) < (H 60 l1) → ((0 : Int) ≤ (e3_w32 ((e3_w32 (8 * l1)) + l3)) ∧ ((e3_w32 ((e3_w32 (8 * l1)) + l3)) : Int) < 64) ∧ (wM_goesOn_203 Q (fun l1 l3 H G => wM_goesOn_160 Q nn l1 l3 H G) l1 l3 (H 66 (e3_w32 ((e3_w32 (8 * l1)) + l3))) (e3_w32 ((e3_w32 (8 * (H 40 27))) + l3)) H G)) ∧ (¬ ((0 : Int) < (H 60 l1)) → (wM_goesOn_203 Q (fun l1 l3 H G => wM_goesOn_160 Q nn l1 l3 H G) l1 l3 0 (e3_w32 ((e3_w32 (8 * (H 40 27))) + l3)) H G)))) ∧ (¬ ((l3 : Int) < 8) → (wM_goesOn_210 Q H G))) := h
    refine e3_K [0, 0] 163 [(2, 40), (0, l1), (3, 0), (0, l3)] [(0, 8), (0, l3)] (H) (G) (wZ L xs) (M := tbM233) rfl rfl trivial ?_
    refine e3_br (M := tbM233) rfl rfl rfl Iff.rfl (fun hc => ?_) (fun hc => ?_)
    · replace h := h.1 hc
      obtain ⟨o1, h⟩ := h
      refine e3_K [0, 4, 0, 0, 2, 0, 0, 0, 0, 4, 0, 2] 185 [(2, 40), (0, l1), (3, 0), (0, l3)] [(0, (H 60 l1)), (0, (e3_w32 ((e3_w32 (8 * (H 40 27))) + l3))), (2, 58)] (H) (G) (wZ L xs) (M := tbM233) rfl rfl ⟨trivial, trivial, trivial, o1, trivial⟩ ?_
      refine e3_br (M := tbM233) rfl rfl rfl Iff.rfl (fun hc => ?_) (fun hc => ?_)
      · replace h := h.1 hc
        obtain ⟨o2, h⟩ := h
        refine e3_K [0, 4, 0, 0, 0, 0, 0, 2, 0] 203 [(2, 40), (0, l1), (3, 0), (0, l3)] [(0, (H 66 (e3_w32 ((e3_w32 (8 * l1)) + l3)))), (0, (e3_w32 ((e3_w32 (8 * (H 40 27))) + l3))), (2, 58)] (H) (G) (wZ L xs) (M := tbM233) rfl rfl ⟨trivial, o2, trivial⟩ ?_
        exact sM_goesOn_203 L xs Q (fun l1 l3 H G => wM_goesOn_160 Q nn l1 l3 H G) ih _ _ _ _ _ _ h
      · replace h := h.2 hc
        refine e3_K [0] 203 [(2, 40), (0, l1), (3, 0), (0, l3)] [(0, 0), (0, (e3_w32 ((e3_w32 (8 * (H 40 27))) + l3))), (2, 58)] (H) (G) (wZ L xs) (M := tbM233) rfl rfl trivial ?_
        exact sM_goesOn_203 L xs Q (fun l1 l3 H G => wM_goesOn_160 Q nn l1 l3 H G) ih _ _ _ _ _ _ h
    · replace h := h.2 hc
      refine e3_fgt [true, false, false, false] ?_
      exact sM_goesOn_210 L xs Q _ _ h
set_option maxRecDepth 100000 in
set_option maxHeartbeats 4000000 in
theorem sM_goesOn_148 (L : Nat) (xs : Nat → Int32) (Q : Int → e3_H → e3_G → Prop) (l1 : Int) (H : e3_H) (G : e3_G) (h : wM_goesOn_148 Q l1 H G) : e3_Ev (wB L xs) 6 132 233 148 [(2, 40), (0, l1), (3, 0), (3, 0)] [] H G (e3_q0 Q) := by
  unfold wM_goesOn_148 at h
  obtain ⟨o2, h⟩ := h
  refine e3_K [0, 0, 4, 0, 2, 2] 158 [(2, 40), (0, l1), (3, 0), (3, 0)] [] (e3_up H 40 31 (H 64 l1)) (G) (wZ L xs) (M := tbM233) rfl rfl ⟨trivial, o2, trivial, trivial⟩ ?_
  generalize hH1 : (e3_up H 40 31 (H 64 l1)) = H1
  replace h := h H1 hH1.symm
  refine e3_K [0, 0] 160 [(2, 40), (0, l1), (3, 0), (0, 0)] [] (H1) (G) (wZ L xs) (M := tbM233) rfl rfl trivial ?_
  obtain ⟨nl, h⟩ := h
  exact sM_goesOn_160 L xs Q nl _ _ _ _ h
set_option maxRecDepth 100000 in
set_option maxHeartbeats 4000000 in
theorem sM_goesOn_85 (L : Nat) (xs : Nat → Int32) (Q : Int → e3_H → e3_G → Prop)  (H : e3_H) (G : e3_G) (h : wM_goesOn_85 Q  H G) : e3_Ev (wB L xs) 6 132 233 85 [(2, 40), (3, 0), (3, 0), (3, 0)] [] H G (e3_q0 Q) := by
  unfold wM_goesOn_85 at h
  refine e3_K [0, 0] 88 [(2, 40), (3, 0), (3, 0), (3, 0)] [(0, 41), (2, 40)] (H) (G) (wZ L xs) (M := tbM233) rfl rfl trivial ?_
  refine e3_call (o := 0) (k := 217) (M2 := tbM217) (f1 := 5) (w1 := 111) (as := [(2, 40), (0, 41)]) (rest := []) (M := tbM233) rfl rfl rfl trivial (Nat.le_of_ble_eq_true rfl) (Nat.le_of_ble_eq_true rfl) (Nat.le_of_ble_eq_true rfl) ?_
  refine e3_mono (sM_must L xs _ _ _ _ h) (fun r H1 G2 h => ?_)
  obtain ⟨rfl, h⟩ := h
  change e3_Ev _ _ _ _ 91 [(2, 40), (3, 0), (3, 0), (3, 0)] [] H1 G2 _
  refine e3_K [0] 92 [(2, 40), (3, 0), (3, 0), (3, 0)] [(0, 0)] (H1) (G2) (wZ L xs) (M := tbM233) rfl rfl trivial ?_
  exact e3_retb (M := tbM233) rfl rfl rfl (Or.inl rfl) ⟨_, rfl, h⟩
set_option maxRecDepth 100000 in
set_option maxHeartbeats 4000000 in
theorem sM_goesOn_59 (L : Nat) (xs : Nat → Int32) (Q : Int → e3_H → e3_G → Prop)  (H : e3_H) (G : e3_G) (h : wM_goesOn_59 Q  H G) : e3_Ev (wB L xs) 6 132 233 59 [(2, 40), (3, 0), (3, 0), (3, 0)] [] H G (e3_q0 Q) := by
  unfold wM_goesOn_59 at h
  refine e3_K [0, 0] 62 [(2, 40), (3, 0), (3, 0), (3, 0)] [(0, 44), (2, 40)] (H) (G) (wZ L xs) (M := tbM233) rfl rfl trivial ?_
  refine e3_call (o := 0) (k := 214) (M2 := tbM214) (f1 := 4) (w1 := 89) (as := [(2, 40), (0, 44)]) (rest := []) (M := tbM233) rfl rfl rfl trivial (Nat.le_of_ble_eq_true rfl) (Nat.le_of_ble_eq_true rfl) (Nat.le_of_ble_eq_true rfl) ?_
  refine e3_mono (sM_takes L xs _ _ _ _ h) (fun r H1 G2 h => ?_)
  obtain ⟨x3, rfl, h⟩ := h
  change e3_Ev _ _ _ _ 65 [(2, 40), (3, 0), (3, 0), (3, 0)] [(0, x3)] H1 G2 _
  exact e3_retb (M := tbM233) rfl rfl rfl h.1 ⟨_, rfl, h.2⟩
set_option maxRecDepth 100000 in
set_option maxHeartbeats 4000000 in
theorem sM_goesOn (L : Nat) (xs : Nat → Int32) (Q : Int → e3_H → e3_G → Prop)  (H : e3_H) (G : e3_G) (h : wM_goesOn Q  H G) : e3_Ev (wB L xs) 6 132 233 0 [(2, 40), (3, 0), (3, 0), (3, 0)] [] H G (e3_q0 Q) := by
  unfold wM_goesOn at h
  obtain ⟨o1, o2, h⟩ := h
  refine e3_K [0, 2, 0, 0, 0, 0, 4, 0, 2, 0, 0, 4, 0, 2, 0] 21 [(2, 40), (0, (e3_w32 ((H 40 32) - 1))), (0, (H 59 (e3_w32 ((H 40 32) - 1)))), (3, 0)] [(0, 5), (0, (H 46 (H 59 (e3_w32 ((H 40 32) - 1)))))] (H) (G) (wZ L xs) (M := tbM233) rfl rfl ⟨trivial, trivial, o1, trivial, o2, trivial⟩ ?_
  refine e3_br (M := tbM233) rfl rfl rfl Iff.rfl (fun hc => ?_) (fun hc => ?_)
  · replace h := h.1 hc
    obtain ⟨o3, o4, o5, h⟩ := h
    refine e3_K [0, 4, 0, 2, 0, 4, 0, 4, 0, 2, 2] 41 [(2, 40), (0, (e3_w32 ((H 40 32) - 1))), (0, (H 59 (e3_w32 ((H 40 32) - 1)))), (3, 0)] [(0, (H 44 (H 48 (H 59 (e3_w32 ((H 40 32) - 1)))))), (0, (H 60 (e3_w32 ((H 40 32) - 1))))] (H) (G) (wZ L xs) (M := tbM233) rfl rfl ⟨trivial, o3, trivial, trivial, o4, o5, trivial⟩ ?_
    refine e3_br (M := tbM233) rfl rfl rfl Iff.rfl (fun hc => ?_) (fun hc => ?_)
    · replace h := h.1 hc
      refine e3_K [0, 0] 47 [(2, 40), (0, (e3_w32 ((H 40 32) - 1))), (0, (H 59 (e3_w32 ((H 40 32) - 1)))), (3, 0)] [(0, 44), (2, 40)] (H) (G) (wZ L xs) (M := tbM233) rfl rfl trivial ?_
      refine e3_call (o := 0) (k := 215) (M2 := tbM215) (f1 := 0) (w1 := 0) (as := [(2, 40), (0, 44)]) (rest := []) (M := tbM233) rfl rfl rfl trivial (Nat.le_of_ble_eq_true rfl) (Nat.le_of_ble_eq_true rfl) (Nat.le_of_ble_eq_true rfl) ?_
      refine e3_mono (sM_isSign L xs _ _ _ _ h) (fun r H6 G7 h => ?_)
      obtain ⟨x8, rfl, h⟩ := h
      change e3_Ev _ _ _ _ 50 [(2, 40), (0, (e3_w32 ((H 40 32) - 1))), (0, (H 59 (e3_w32 ((H 40 32) - 1)))), (3, 0)] [(0, x8)] H6 G7 _
      refine e3_br (M := tbM233) rfl rfl rfl Iff.rfl (fun hc => ?_) (fun hc => ?_)
      · replace h := h.1 hc
        refine e3_K [0, 0] 56 [(2, 40), (0, (e3_w32 ((H 40 32) - 1))), (0, (H 59 (e3_w32 ((H 40 32) - 1)))), (3, 0)] [(0, 6), (2, 40)] (H6) (G7) (wZ L xs) (M := tbM233) rfl rfl trivial ?_
        refine e3_call (o := 0) (k := 209) (M2 := tbM209) (f1 := 1) (w1 := 22) (as := [(2, 40), (0, 6)]) (rest := []) (M := tbM233) rfl rfl rfl trivial (Nat.le_of_ble_eq_true rfl) (Nat.le_of_ble_eq_true rfl) (Nat.le_of_ble_eq_true rfl) ?_
        refine e3_mono (sM_stop L xs _ _ _ _ h) (fun r H9 G10 h => ?_)
        obtain ⟨rfl, h⟩ := h
        change e3_Ev _ _ _ _ 59 [(2, 40), (0, (e3_w32 ((H 40 32) - 1))), (0, (H 59 (e3_w32 ((H 40 32) - 1)))), (3, 0)] [] H9 G10 _
        refine e3_fgt [true, false, false, false] ?_
        exact sM_goesOn_59 L xs Q _ _ h
      · replace h := h.2 hc
        refine e3_fgt [true, false, false, false] ?_
        exact sM_goesOn_59 L xs Q _ _ h
    · replace h := h.2 hc
      refine e3_K [0, 0] 69 [(2, 40), (0, (e3_w32 ((H 40 32) - 1))), (0, (H 59 (e3_w32 ((H 40 32) - 1)))), (3, 0)] [(0, 44), (2, 40)] (H) (G) (wZ L xs) (M := tbM233) rfl rfl trivial ?_
      refine e3_call (o := 0) (k := 215) (M2 := tbM215) (f1 := 0) (w1 := 0) (as := [(2, 40), (0, 44)]) (rest := []) (M := tbM233) rfl rfl rfl trivial (Nat.le_of_ble_eq_true rfl) (Nat.le_of_ble_eq_true rfl) (Nat.le_of_ble_eq_true rfl) ?_
      refine e3_mono (sM_isSign L xs _ _ _ _ h) (fun r H12 G13 h => ?_)
      obtain ⟨x14, rfl, h⟩ := h
      change e3_Ev _ _ _ _ 72 [(2, 40), (0, (e3_w32 ((H 40 32) - 1))), (0, (H 59 (e3_w32 ((H 40 32) - 1)))), (3, 0)] [(0, x14)] H12 G13 _
      refine e3_br (M := tbM233) rfl rfl rfl Iff.rfl (fun hc => ?_) (fun hc => ?_)
      · replace h := h.1 hc
        refine e3_fgt [true, false, false, false] ?_
        exact sM_goesOn_85 L xs Q _ _ h
      · replace h := h.2 hc
        refine e3_K [0, 0, 0, 2] 82 [(2, 40), (0, (e3_w32 ((H 40 32) - 1))), (0, (H 59 (e3_w32 ((H 40 32) - 1)))), (3, 0)] [(0, (H12 40 5)), (0, 6), (2, 40)] (H12) (G13) (wZ L xs) (M := tbM233) rfl rfl ⟨trivial, trivial⟩ ?_
        refine e3_call (o := 0) (k := 210) (M2 := tbM210) (f1 := 0) (w1 := 0) (as := [(2, 40), (0, 6), (0, (H12 40 5))]) (rest := []) (M := tbM233) rfl rfl rfl trivial (Nat.le_of_ble_eq_true rfl) (Nat.le_of_ble_eq_true rfl) (Nat.le_of_ble_eq_true rfl) ?_
        refine e3_mono (sM_fails L xs _ _ _ _ _ h) (fun r H15 G16 h => ?_)
        obtain ⟨rfl, h⟩ := h
        change e3_Ev _ _ _ _ 85 [(2, 40), (0, (e3_w32 ((H 40 32) - 1))), (0, (H 59 (e3_w32 ((H 40 32) - 1)))), (3, 0)] [] H15 G16 _
        refine e3_fgt [true, false, false, false] ?_
        exact sM_goesOn_85 L xs Q _ _ h
  · replace h := h.2 hc
    refine e3_K [0] 94 [(2, 40), (0, (e3_w32 ((H 40 32) - 1))), (0, (H 59 (e3_w32 ((H 40 32) - 1)))), (3, 0)] [(2, 40)] (H) (G) (wZ L xs) (M := tbM233) rfl rfl trivial ?_
    refine e3_call (o := 0) (k := 234) (M2 := tbM234) (f1 := 0) (w1 := 0) (as := [(2, 40)]) (rest := []) (M := tbM233) rfl rfl rfl trivial (Nat.le_of_ble_eq_true rfl) (Nat.le_of_ble_eq_true rfl) (Nat.le_of_ble_eq_true rfl) ?_
    refine e3_mono (sM_endsAlternative L xs _ _ _ h) (fun r H18 G19 h => ?_)
    obtain ⟨rfl, h⟩ := h
    change e3_Ev _ _ _ _ 97 [(2, 40), (0, (e3_w32 ((H 40 32) - 1))), (0, (H 59 (e3_w32 ((H 40 32) - 1)))), (3, 0)] [] H18 G19 _
    refine e3_K [0, 0] 100 [(2, 40), (0, (e3_w32 ((H 40 32) - 1))), (0, (H 59 (e3_w32 ((H 40 32) - 1)))), (3, 0)] [(0, 124), (2, 40)] (H18) (G19) (wZ L xs) (M := tbM233) rfl rfl trivial ?_
    refine e3_call (o := 0) (k := 214) (M2 := tbM214) (f1 := 4) (w1 := 89) (as := [(2, 40), (0, 124)]) (rest := []) (M := tbM233) rfl rfl rfl trivial (Nat.le_of_ble_eq_true rfl) (Nat.le_of_ble_eq_true rfl) (Nat.le_of_ble_eq_true rfl) ?_
    refine e3_mono (sM_takes L xs _ _ _ _ h) (fun r H21 G22 h => ?_)
    obtain ⟨x23, rfl, h⟩ := h
    change e3_Ev _ _ _ _ 103 [(2, 40), (0, (e3_w32 ((H 40 32) - 1))), (0, (H 59 (e3_w32 ((H 40 32) - 1)))), (3, 0)] [(0, x23)] H21 G22 _
    refine e3_br (M := tbM233) rfl rfl rfl Iff.rfl (fun hc => ?_) (fun hc => ?_)
    · replace h := h.1 hc
      refine e3_K [0, 0] 121 [(2, 40), (0, (e3_w32 ((H 40 32) - 1))), (0, (H 59 (e3_w32 ((H 40 32) - 1)))), (3, 0)] [(0, 41), (2, 40)] (H21) (G22) (wZ L xs) (M := tbM233) rfl rfl trivial ?_
      refine e3_call (o := 0) (k := 215) (M2 := tbM215) (f1 := 0) (w1 := 0) (as := [(2, 40), (0, 41)]) (rest := []) (M := tbM233) rfl rfl rfl trivial (Nat.le_of_ble_eq_true rfl) (Nat.le_of_ble_eq_true rfl) (Nat.le_of_ble_eq_true rfl) ?_
      refine e3_mono (sM_isSign L xs _ _ _ _ h) (fun r H24 G25 h => ?_)
      obtain ⟨x26, rfl, h⟩ := h
      change e3_Ev _ _ _ _ 124 [(2, 40), (0, (e3_w32 ((H 40 32) - 1))), (0, (H 59 (e3_w32 ((H 40 32) - 1)))), (3, 0)] [(0, x26)] H24 G25 _
      refine e3_br (M := tbM233) rfl rfl rfl Iff.rfl (fun hc => ?_) (fun hc => ?_)
      · replace h := h.1 hc
        refine e3_fgt [true, false, false, false] ?_
        exact sM_goesOn_210 L xs Q _ _ h
      · replace h := h.2 hc
        obtain ⟨o27, h⟩ := h
        refine e3_K [0, 4, 0, 2] 133 [(2, 40), (0, (e3_w32 ((H 40 32) - 1))), (0, (H 59 (e3_w32 ((H 40 32) - 1)))), (3, 0)] [(0, (H24 65 (e3_w32 ((H 40 32) - 1))))] (H24) (G25) (wZ L xs) (M := tbM233) rfl rfl ⟨trivial, o27, trivial⟩ ?_
        refine e3_br (M := tbM233) rfl rfl rfl Iff.rfl (fun hc => ?_) (fun hc => ?_)
        · replace h := h.1 hc
          refine e3_fgt [true, true, false, false] ?_
          exact sM_goesOn_148 L xs Q _ _ _ h
        · replace h := h.2 hc
          obtain ⟨o28, h⟩ := h
          refine e3_K [0, 0, 0, 4, 0, 2] 145 [(2, 40), (0, (e3_w32 ((H 40 32) - 1))), (0, (H 59 (e3_w32 ((H 40 32) - 1)))), (3, 0)] [(0, (H24 62 (e3_w32 ((H 40 32) - 1)))), (0, 8), (2, 40)] (H24) (G25) (wZ L xs) (M := tbM233) rfl rfl ⟨trivial, o28, trivial⟩ ?_
          refine e3_call (o := 0) (k := 210) (M2 := tbM210) (f1 := 0) (w1 := 0) (as := [(2, 40), (0, 8), (0, (H24 62 (e3_w32 ((H 40 32) - 1))))]) (rest := []) (M := tbM233) rfl rfl rfl trivial (Nat.le_of_ble_eq_true rfl) (Nat.le_of_ble_eq_true rfl) (Nat.le_of_ble_eq_true rfl) ?_
          refine e3_mono (sM_fails L xs _ _ _ _ _ h) (fun r H29 G30 h => ?_)
          obtain ⟨rfl, h⟩ := h
          change e3_Ev _ _ _ _ 148 [(2, 40), (0, (e3_w32 ((H 40 32) - 1))), (0, (H 59 (e3_w32 ((H 40 32) - 1)))), (3, 0)] [] H29 G30 _
          refine e3_fgt [true, true, false, false] ?_
          exact sM_goesOn_148 L xs Q _ _ _ h
    · replace h := h.2 hc
      obtain ⟨o33, h⟩ := h
      refine e3_K [0, 0, 4, 0, 2, 2] 116 [(2, 40), (0, (e3_w32 ((H 40 32) - 1))), (0, (H 59 (e3_w32 ((H 40 32) - 1)))), (3, 0)] [] (e3_up H21 40 31 (H21 63 (e3_w32 ((H 40 32) - 1)))) (G22) (wZ L xs) (M := tbM233) rfl rfl ⟨trivial, o33, trivial, trivial⟩ ?_
      generalize hH32 : (e3_up H21 40 31 (H21 63 (e3_w32 ((H 40 32) - 1)))) = H32
      replace h := h H32 hH32.symm
      refine e3_K [0] 117 [(2, 40), (0, (e3_w32 ((H 40 32) - 1))), (0, (H 59 (e3_w32 ((H 40 32) - 1)))), (3, 0)] [(0, 1)] (H32) (G22) (wZ L xs) (M := tbM233) rfl rfl trivial ?_
      exact e3_retb (M := tbM233) rfl rfl rfl (Or.inr rfl) ⟨_, rfl, h⟩
/-- LetterPostModel.readPattern(IZ)I -/
def wM_readPattern_208 (Q : Int → e3_H → e3_G → Prop) (l3 : Int) (H : e3_H) (G : e3_G) : Prop :=
  Q l3 H G
def wM_readPattern_165 (Q : Int → e3_H → e3_G → Prop) (k15 : Int → Int → e3_H → e3_G → Prop) (l4 : Int) (s0 : Int) (s1 : Int) (H : e3_H) (G : e3_G) : Prop :=
  (wM_begins (fun x3 H1 G2 => (k15 x3 l4 H1 G2)) s1 s0 H G)
def wM_readPattern_160 (Q : Int → e3_H → e3_G → Prop) (k15 : Int → Int → e3_H → e3_G → Prop) (l4 : Int) (s0 : Int) (H : e3_H) (G : e3_G) : Prop :=
  (wM_readPattern_165 Q k15 l4 1 s0 H G)
def wM_readPattern_139 (Q : Int → e3_H → e3_G → Prop) (k15 : Int → Int → e3_H → e3_G → Prop) (l4 : Int) (s0 : Int) (H : e3_H) (G : e3_G) : Prop :=
  (wM_wanted (fun x3 H1 G2 => ((((H1 40 32) : Int) = 6 → (wM_readPattern_160 Q k15 l4 x3 H1 G2)) ∧ (¬ (((H1 40 32) : Int) = 6) → (((s0 : Int) = 0 → (wM_readPattern_165 Q k15 l4 0 x3 H1 G2)) ∧ (¬ ((s0 : Int) = 0) → (wM_readPattern_160 Q k15 l4 x3 H1 G2)))))) H G)
def wM_readPattern_138 (Q : Int → e3_H → e3_G → Prop) (k15 : Int → Int → e3_H → e3_G → Prop) (l4 : Int) (H : e3_H) (G : e3_G) : Prop :=
  (wM_readPattern_139 Q k15 l4 0 H G)
def wM_readPattern_56 (Q : Int → e3_H → e3_G → Prop) (k15 : Int → Int → e3_H → e3_G → Prop) (l4 : Int) (s0 : Int) (s1 : Int) (H : e3_H) (G : e3_G) : Prop :=
  (wM_begins (fun x3 H1 G2 => (k15 x3 l4 H1 G2)) s1 s0 H G)
def wM_readPattern_15 (Q : Int → e3_H → e3_G → Prop) : Nat → Int → Int → e3_H → e3_G → Prop
  | 0, _, _, _, _ => False
  | nn + 1, l3, l4, H, G => ((((H 40 7) : Int) = 0 → (((l4 : Int) < (H 40 32) → (wM_wanted (fun x3 H1 G2 => ((((H1 40 32) : Int) = 6 → (wM_readPattern_56 Q (fun l3 l4 H G => wM_readPattern_15 Q nn l3 l4 H G) (H 40 32) 1 x3 H1 G2)) ∧ (¬ (((H1 40 32) : Int) = 6) → (wM_readPattern_56 Q (fun l3 l4 H G => wM_readPattern_15 Q nn l3 l4 H G) (H 40 32) 0 x3 H1 G2)))) H G)) ∧ (¬ ((l4 : Int) < (H 40 32)) → (wM_readAs (fun H4 G5 => ((((H4 40 7) : Int) = 0 → ((((H4 40 32) : Int) = 0 → (wM_readPattern_208 Q l3 H4 G5)) ∧ (¬ (((H4 40 32) : Int) = 0) → (wM_comesInto (fun H7 G8 => (wM_goesOn (fun x12 H10 G11 => (((x12 : Int) = 0 → ((((H10 40 7) : Int) = 0 → ∀ H13 : e3_H, H13 = e3_up H10 40 32 (e3_w32 ((H10 40 32) - 1)) → ((0 : Int) ≤ (H13 40 32) ∧ ((H13 40 32) : Int) < 8) ∧ (wM_readPattern_15 Q nn (H13 59 (H13 40 32)) (H13 40 32) H13 G11)) ∧ (¬ (((H10 40 7) : Int) = 0) → (wM_readPattern_15 Q nn l3 l4 H10 G11)))) ∧ (¬ ((x12 : Int) = 0) → ((0 : Int) ≤ (e3_w32 ((H10 40 32) - 1)) ∧ ((e3_w32 ((H10 40 32) - 1)) : Int) < 8) ∧ ((0 : Int) ≤ (H10 59 (e3_w32 ((H10 40 32) - 1))) ∧ ((H10 59 (e3_w32 ((H10 40 32) - 1))) : Int) < 1700) ∧ ((((H10 46 (H10 59 (e3_w32 ((H10 40 32) - 1)))) : Int) = 6 → ((0 : Int) ≤ (e3_w32 ((H10 40 32) - 1)) ∧ ((e3_w32 ((H10 40 32) - 1)) : Int) < 8) ∧ ((((H10 60 (e3_w32 ((H10 40 32) - 1))) : Int) = 6 → (wM_readPattern_139 Q (fun l3 l4 H G => wM_readPattern_15 Q nn l3 l4 H G) l4 1 H10 G11)) ∧ (¬ (((H10 60 (e3_w32 ((H10 40 32) - 1))) : Int) = 6) → (wM_readPattern_138 Q (fun l3 l4 H G => wM_readPattern_15 Q nn l3 l4 H G) l4 H10 G11)))) ∧ (¬ (((H10 46 (H10 59 (e3_w32 ((H10 40 32) - 1)))) : Int) = 6) → (wM_readPattern_138 Q (fun l3 l4 H G => wM_readPattern_15 Q nn l3 l4 H G) l4 H10 G11)))))) H7 G8)) l3 H4 G5)))) ∧ (¬ (((H4 40 7) : Int) = 0) → (wM_readPattern_208 Q l3 H4 G5)))) l3 H G)))) ∧ (¬ (((H 40 7) : Int) = 0) → (wM_readPattern_208 Q l3 H G)))
def wM_readPattern (Q : Int → e3_H → e3_G → Prop) (l1 : Int) (l2 : Int) (H : e3_H) (G : e3_G) : Prop :=
  ∀ H1 : e3_H, H1 = e3_up H 40 32 0 → (wM_begins (fun x4 H2 G3 => (∃ n, wM_readPattern_15 Q n x4 0 H2 G3)) l1 l2 H1 G)
set_option maxRecDepth 100000 in
set_option maxHeartbeats 4000000 in
theorem sM_readPattern_208 (L : Nat) (xs : Nat → Int32) (Q : Int → e3_H → e3_G → Prop) (l3 : Int) (H : e3_H) (G : e3_G) (h : wM_readPattern_208 Q l3 H G) : e3_Ev (wB L xs) 8 185 221 208 [(3, 0), (3, 0), (3, 0), (0, l3), (3, 0), (3, 0)] [] H G (e3_q0 Q) := by
  unfold wM_readPattern_208 at h
  refine e3_K [0] 209 [(3, 0), (3, 0), (3, 0), (0, l3), (3, 0), (3, 0)] [(0, l3)] (H) (G) (wZ L xs) (M := tbM221) rfl rfl trivial ?_
  exact e3_reti (M := tbM221) rfl rfl rfl ⟨_, rfl, h⟩
set_option maxRecDepth 100000 in
set_option maxHeartbeats 4000000 in
theorem sM_readPattern_165 (L : Nat) (xs : Nat → Int32) (Q : Int → e3_H → e3_G → Prop) (k15 : Int → Int → e3_H → e3_G → Prop) (hk15 : ∀ (l3 : Int) (l4 : Int) (H : e3_H) (G : e3_G), k15 l3 l4 H G → e3_Ev (wB L xs) 8 185 221 15 [(2, 40), (3, 0), (3, 0), (0, l3), (0, l4), (3, 0)] [] H G (e3_q0 Q)) (l4 : Int) (s0 : Int) (s1 : Int) (H : e3_H) (G : e3_G) (h : wM_readPattern_165 Q k15 l4 s0 s1 H G) : e3_Ev (wB L xs) 8 185 221 165 [(2, 40), (3, 0), (3, 0), (3, 0), (0, l4), (3, 0)] [(0, s0), (0, s1), (2, 40)] H G (e3_q0 Q) := by
  unfold wM_readPattern_165 at h
  refine e3_call (o := 0) (k := 222) (M2 := tbM222) (f1 := 7) (w1 := 155) (as := [(2, 40), (0, s1), (0, s0)]) (rest := []) (M := tbM221) rfl rfl rfl trivial (Nat.le_of_ble_eq_true rfl) (Nat.le_of_ble_eq_true rfl) (Nat.le_of_ble_eq_true rfl) ?_
  refine e3_mono (sM_begins L xs _ _ _ _ _ h) (fun r H1 G2 h => ?_)
  obtain ⟨x3, rfl, h⟩ := h
  change e3_Ev _ _ _ _ 168 [(2, 40), (3, 0), (3, 0), (3, 0), (0, l4), (3, 0)] [(0, x3)] H1 G2 _
  refine e3_K [0, 0] 15 [(2, 40), (3, 0), (3, 0), (0, x3), (0, l4), (3, 0)] [] (H1) (G2) (wZ L xs) (M := tbM221) rfl rfl trivial ?_
  exact hk15 _ _ _ _ h
set_option maxRecDepth 100000 in
set_option maxHeartbeats 4000000 in
theorem sM_readPattern_160 (L : Nat) (xs : Nat → Int32) (Q : Int → e3_H → e3_G → Prop) (k15 : Int → Int → e3_H → e3_G → Prop) (hk15 : ∀ (l3 : Int) (l4 : Int) (H : e3_H) (G : e3_G), k15 l3 l4 H G → e3_Ev (wB L xs) 8 185 221 15 [(2, 40), (3, 0), (3, 0), (0, l3), (0, l4), (3, 0)] [] H G (e3_q0 Q)) (l4 : Int) (s0 : Int) (H : e3_H) (G : e3_G) (h : wM_readPattern_160 Q k15 l4 s0 H G) : e3_Ev (wB L xs) 8 185 221 160 [(2, 40), (3, 0), (3, 0), (3, 0), (0, l4), (3, 0)] [(0, s0), (2, 40)] H G (e3_q0 Q) := by
  unfold wM_readPattern_160 at h
  refine e3_K [0, 0] 165 [(2, 40), (3, 0), (3, 0), (3, 0), (0, l4), (3, 0)] [(0, 1), (0, s0), (2, 40)] (H) (G) (wZ L xs) (M := tbM221) rfl rfl trivial ?_
  exact sM_readPattern_165 L xs Q k15 hk15 _ _ _ _ _ h
set_option maxRecDepth 100000 in
set_option maxHeartbeats 4000000 in
theorem sM_readPattern_139 (L : Nat) (xs : Nat → Int32) (Q : Int → e3_H → e3_G → Prop) (k15 : Int → Int → e3_H → e3_G → Prop) (hk15 : ∀ (l3 : Int) (l4 : Int) (H : e3_H) (G : e3_G), k15 l3 l4 H G → e3_Ev (wB L xs) 8 185 221 15 [(2, 40), (3, 0), (3, 0), (0, l3), (0, l4), (3, 0)] [] H G (e3_q0 Q)) (l4 : Int) (s0 : Int) (H : e3_H) (G : e3_G) (h : wM_readPattern_139 Q k15 l4 s0 H G) : e3_Ev (wB L xs) 8 185 221 139 [(2, 40), (3, 0), (3, 0), (3, 0), (0, l4), (3, 0)] [(0, s0)] H G (e3_q0 Q) := by
  unfold wM_readPattern_139 at h
  refine e3_K [0, 0, 0] 143 [(2, 40), (3, 0), (3, 0), (3, 0), (0, l4), (0, s0)] [(2, 40), (2, 40)] (H) (G) (wZ L xs) (M := tbM221) rfl rfl trivial ?_
  refine e3_call (o := 0) (k := 230) (M2 := tbM230) (f1 := 0) (w1 := 0) (as := [(2, 40)]) (rest := [(2, 40)]) (M := tbM221) rfl rfl rfl trivial (Nat.le_of_ble_eq_true rfl) (Nat.le_of_ble_eq_true rfl) (Nat.le_of_ble_eq_true rfl) ?_
  refine e3_mono (sM_wanted L xs _ _ _ h) (fun r H1 G2 h => ?_)
  obtain ⟨x3, rfl, h⟩ := h
  change e3_Ev _ _ _ _ 146 [(2, 40), (3, 0), (3, 0), (3, 0), (0, l4), (0, s0)] [(0, x3), (2, 40)] H1 G2 _
  refine e3_K [0, 2, 0] 152 [(2, 40), (3, 0), (3, 0), (3, 0), (0, l4), (0, s0)] [(0, 6), (0, (H1 40 32)), (0, x3), (2, 40)] (H1) (G2) (wZ L xs) (M := tbM221) rfl rfl ⟨trivial, trivial⟩ ?_
  refine e3_br (M := tbM221) rfl rfl rfl Iff.rfl (fun hc => ?_) (fun hc => ?_)
  · replace h := h.1 hc
    refine e3_fgt [true, false, false, false, true, false] ?_
    exact sM_readPattern_160 L xs Q k15 hk15 _ _ _ _ h
  · replace h := h.2 hc
    refine e3_K [0] 157 [(2, 40), (3, 0), (3, 0), (3, 0), (0, l4), (0, s0)] [(0, s0), (0, x3), (2, 40)] (H1) (G2) (wZ L xs) (M := tbM221) rfl rfl trivial ?_
    refine e3_br (M := tbM221) rfl rfl rfl Iff.rfl (fun hc => ?_) (fun hc => ?_)
    · replace h := h.1 hc
      refine e3_K [0] 165 [(2, 40), (3, 0), (3, 0), (3, 0), (0, l4), (0, s0)] [(0, 0), (0, x3), (2, 40)] (H1) (G2) (wZ L xs) (M := tbM221) rfl rfl trivial ?_
      refine e3_fgt [true, false, false, false, true, false] ?_
      exact sM_readPattern_165 L xs Q k15 hk15 _ _ _ _ _ h
    · replace h := h.2 hc
      refine e3_fgt [true, false, false, false, true, false] ?_
      exact sM_readPattern_160 L xs Q k15 hk15 _ _ _ _ h
set_option maxRecDepth 100000 in
set_option maxHeartbeats 4000000 in
theorem sM_readPattern_138 (L : Nat) (xs : Nat → Int32) (Q : Int → e3_H → e3_G → Prop) (k15 : Int → Int → e3_H → e3_G → Prop) (hk15 : ∀ (l3 : Int) (l4 : Int) (H : e3_H) (G : e3_G), k15 l3 l4 H G → e3_Ev (wB L xs) 8 185 221 15 [(2, 40), (3, 0), (3, 0), (0, l3), (0, l4), (3, 0)] [] H G (e3_q0 Q)) (l4 : Int) (H : e3_H) (G : e3_G) (h : wM_readPattern_138 Q k15 l4 H G) : e3_Ev (wB L xs) 8 185 221 138 [(2, 40), (3, 0), (3, 0), (3, 0), (0, l4), (3, 0)] [] H G (e3_q0 Q) := by
  unfold wM_readPattern_138 at h
  refine e3_K [0] 139 [(2, 40), (3, 0), (3, 0), (3, 0), (0, l4), (3, 0)] [(0, 0)] (H) (G) (wZ L xs) (M := tbM221) rfl rfl trivial ?_
  exact sM_readPattern_139 L xs Q k15 hk15 _ _ _ _ h
set_option maxRecDepth 100000 in
set_option maxHeartbeats 4000000 in
theorem sM_readPattern_56 (L : Nat) (xs : Nat → Int32) (Q : Int → e3_H → e3_G → Prop) (k15 : Int → Int → e3_H → e3_G → Prop) (hk15 : ∀ (l3 : Int) (l4 : Int) (H : e3_H) (G : e3_G), k15 l3 l4 H G → e3_Ev (wB L xs) 8 185 221 15 [(2, 40), (3, 0), (3, 0), (0, l3), (0, l4), (3, 0)] [] H G (e3_q0 Q)) (l4 : Int) (s0 : Int) (s1 : Int) (H : e3_H) (G : e3_G) (h : wM_readPattern_56 Q k15 l4 s0 s1 H G) : e3_Ev (wB L xs) 8 185 221 56 [(2, 40), (3, 0), (3, 0), (3, 0), (0, l4), (3, 0)] [(0, s0), (0, s1), (2, 40)] H G (e3_q0 Q) := by
  unfold wM_readPattern_56 at h
  refine e3_call (o := 0) (k := 222) (M2 := tbM222) (f1 := 7) (w1 := 155) (as := [(2, 40), (0, s1), (0, s0)]) (rest := []) (M := tbM221) rfl rfl rfl trivial (Nat.le_of_ble_eq_true rfl) (Nat.le_of_ble_eq_true rfl) (Nat.le_of_ble_eq_true rfl) ?_
  refine e3_mono (sM_begins L xs _ _ _ _ _ h) (fun r H1 G2 h => ?_)
  obtain ⟨x3, rfl, h⟩ := h
  change e3_Ev _ _ _ _ 59 [(2, 40), (3, 0), (3, 0), (3, 0), (0, l4), (3, 0)] [(0, x3)] H1 G2 _
  refine e3_K [0, 0] 15 [(2, 40), (3, 0), (3, 0), (0, x3), (0, l4), (3, 0)] [] (H1) (G2) (wZ L xs) (M := tbM221) rfl rfl trivial ?_
  exact hk15 _ _ _ _ h
set_option maxRecDepth 100000 in
set_option maxHeartbeats 4000000 in
theorem sM_readPattern_15 (L : Nat) (xs : Nat → Int32) (Q : Int → e3_H → e3_G → Prop) : ∀ (nl : Nat) (l3 : Int) (l4 : Int) (H : e3_H) (G : e3_G), wM_readPattern_15 Q nl l3 l4 H G → e3_Ev (wB L xs) 8 185 221 15 [(2, 40), (3, 0), (3, 0), (0, l3), (0, l4), (3, 0)] [] H G (e3_q0 Q) := by
  intro nl
  induction nl with
  | zero => intro l3 l4 H G h; exact h.elim
  | succ nn ih =>
    intro l3 l4 H G h
    have h : ((((H 40 7) : Int) = 0 → (((l4 : Int) < (H 40 32) → (wM_wanted (fun x3 H1 G2 => ((((H1 40 32) : Int) = 6 → (wM_readPattern_56 Q (fun l3 l4 H G => wM_readPattern_15 Q nn l3 l4 H G) (H 40 32) 1 x3 H1 G2)) ∧ (¬ (((H1 40 32) : Int) = 6) → (wM_readPattern_56 Q (fun l3 l4 H G => wM_readPattern_15 Q nn l3 l4 H G) (H 40 32) 0 x3 H1 G2)))) H G)) ∧ (¬ ((l4 : Int) < (H 40 32)) → (wM_readAs (fun H4 G5 => ((((H4 40 7) : Int) = 0 → ((((H4 40 32) : Int) = 0 → (wM_readPattern_208 Q l3 H4 G5)) ∧ (¬ (((H4 40 32) : Int) = 0) → (wM_comesInto (fun H7 G8 => (wM_goesOn (fun x12 H10 G11 => (((x12 : Int) = 0 → ((((H10 40 7) : Int) = 0 → ∀ H13 : e3_H, H13 = e3_up H10 40 32 (e3_w32 ((H10 40 32) - 1)) → ((0 : Int) ≤ (H13 40 32) ∧ ((H13 40 32) : Int) < 8) ∧ (wM_readPattern_15 Q nn (H13 59 (H13 40 32)) (H13 40 32) H13 G11)) ∧ (¬ (((H10 40 7) : Int) = 0) → (wM_readPattern_15 Q nn l3 l4 H10 G11)))) ∧ (¬ ((x12 : Int) = 0) → ((0 : Int) ≤ (e3_w32 ((H10 40 32) - 1)) ∧ ((e3_w32 ((H10 40 32) - 1)) : Int) < 8) ∧ ((0 : Int) ≤ (H10 59 (e3_w32 ((H10 40 32) - 1))) ∧ ((H10 59 (e3_w32 ((H10 40 32) - 1))) : Int) < 1700) ∧ ((((H10 46 (H10 59 (e3_w32 ((H10 40 32) - 1)))) : Int) = 6 → ((0 : Int) ≤ (e3_w32 ((H10 40 32) - 1)) ∧ ((e3_w32 ((H10 40 32) - 1)) : Int) < 8) ∧ ((((H10 60 (e3_w32 ((H10 40 32) - 1))) : Int) = 6 → (wM_readPattern_139 Q (fun l3 l4 H G => wM_readPattern_15 Q nn l3 l4 H G) l4 1 H10 G11)) ∧ (¬ (((H10 60 (e3_w32 ((H10 40 32) - 1))) : Int) = 6) → (wM_readPattern_138 Q (fun l3 l4 H G => wM_readPattern_15 Q nn l3 l4 H G) l4 H10 G11)))) ∧ (¬ (((H10 46 (H10 59 (e3_w32 ((H10 40 32) - 1)))) : Int) = 6) → (wM_readPattern_138 Q (fun l3 l4 H G => wM_readPattern_15 Q nn l3 l4 H G) l4 H10 G11)))))) H7 G8)) l3 H4 G5)))) ∧ (¬ (((H4 40 7) : Int) = 0) → (wM_readPattern_208 Q l3 H4 G5)))) l3 H G)))) ∧ (¬ (((H 40 7) : Int) = 0) → (wM_readPattern_208 Q l3 H G))) := h
    refine e3_K [0, 2] 19 [(2, 40), (3, 0), (3, 0), (0, l3), (0, l4), (3, 0)] [(0, (H 40 7))] (H) (G) (wZ L xs) (M := tbM221) rfl rfl ⟨trivial, trivial⟩ ?_
    refine e3_br (M := tbM221) rfl rfl rfl Iff.rfl (fun hc => ?_) (fun hc => ?_)
    · replace h := h.1 hc
      refine e3_K [0, 2, 0] 28 [(2, 40), (3, 0), (3, 0), (0, l3), (0, l4), (3, 0)] [(0, l4), (0, (H 40 32))] (H) (G) (wZ L xs) (M := tbM221) rfl rfl ⟨trivial, trivial⟩ ?_
      refine e3_br (M := tbM221) rfl rfl rfl Iff.rfl (fun hc => ?_) (fun hc => ?_)
      · replace h := h.1 hc
        refine e3_K [0, 2, 0, 0, 0] 39 [(2, 40), (3, 0), (3, 0), (0, l3), (0, (H 40 32)), (3, 0)] [(2, 40), (2, 40)] (H) (G) (wZ L xs) (M := tbM221) rfl rfl ⟨trivial, trivial⟩ ?_
        refine e3_call (o := 0) (k := 230) (M2 := tbM230) (f1 := 0) (w1 := 0) (as := [(2, 40)]) (rest := [(2, 40)]) (M := tbM221) rfl rfl rfl trivial (Nat.le_of_ble_eq_true rfl) (Nat.le_of_ble_eq_true rfl) (Nat.le_of_ble_eq_true rfl) ?_
        refine e3_mono (sM_wanted L xs _ _ _ h) (fun r H1 G2 h => ?_)
        obtain ⟨x3, rfl, h⟩ := h
        change e3_Ev _ _ _ _ 42 [(2, 40), (3, 0), (3, 0), (0, l3), (0, (H 40 32)), (3, 0)] [(0, x3), (2, 40)] H1 G2 _
        refine e3_K [0, 2, 0] 48 [(2, 40), (3, 0), (3, 0), (0, l3), (0, (H 40 32)), (3, 0)] [(0, 6), (0, (H1 40 32)), (0, x3), (2, 40)] (H1) (G2) (wZ L xs) (M := tbM221) rfl rfl ⟨trivial, trivial⟩ ?_
        refine e3_br (M := tbM221) rfl rfl rfl Iff.rfl (fun hc => ?_) (fun hc => ?_)
        · replace h := h.1 hc
          refine e3_K [0, 0] 56 [(2, 40), (3, 0), (3, 0), (0, l3), (0, (H 40 32)), (3, 0)] [(0, 1), (0, x3), (2, 40)] (H1) (G2) (wZ L xs) (M := tbM221) rfl rfl trivial ?_
          refine e3_fgt [true, false, false, false, true, false] ?_
          exact sM_readPattern_56 L xs Q (fun l3 l4 H G => wM_readPattern_15 Q nn l3 l4 H G) ih _ _ _ _ _ h
        · replace h := h.2 hc
          refine e3_K [0] 56 [(2, 40), (3, 0), (3, 0), (0, l3), (0, (H 40 32)), (3, 0)] [(0, 0), (0, x3), (2, 40)] (H1) (G2) (wZ L xs) (M := tbM221) rfl rfl trivial ?_
          refine e3_fgt [true, false, false, false, true, false] ?_
          exact sM_readPattern_56 L xs Q (fun l3 l4 H G => wM_readPattern_15 Q nn l3 l4 H G) ih _ _ _ _ _ h
      · replace h := h.2 hc
        refine e3_K [0, 0] 65 [(2, 40), (3, 0), (3, 0), (0, l3), (0, l4), (3, 0)] [(0, l3), (2, 40)] (H) (G) (wZ L xs) (M := tbM221) rfl rfl trivial ?_
        refine e3_call (o := 0) (k := 231) (M2 := tbM231) (f1 := 4) (w1 := 89) (as := [(2, 40), (0, l3)]) (rest := []) (M := tbM221) rfl rfl rfl trivial (Nat.le_of_ble_eq_true rfl) (Nat.le_of_ble_eq_true rfl) (Nat.le_of_ble_eq_true rfl) ?_
        refine e3_mono (sM_readAs L xs _ _ _ _ h) (fun r H4 G5 h => ?_)
        obtain ⟨rfl, h⟩ := h
        change e3_Ev _ _ _ _ 68 [(2, 40), (3, 0), (3, 0), (0, l3), (0, l4), (3, 0)] [] H4 G5 _
        refine e3_K [0, 2] 72 [(2, 40), (3, 0), (3, 0), (0, l3), (0, l4), (3, 0)] [(0, (H4 40 7))] (H4) (G5) (wZ L xs) (M := tbM221) rfl rfl ⟨trivial, trivial⟩ ?_
        refine e3_br (M := tbM221) rfl rfl rfl Iff.rfl (fun hc => ?_) (fun hc => ?_)
        · replace h := h.1 hc
          refine e3_K [0, 2] 79 [(2, 40), (3, 0), (3, 0), (0, l3), (0, l4), (3, 0)] [(0, (H4 40 32))] (H4) (G5) (wZ L xs) (M := tbM221) rfl rfl ⟨trivial, trivial⟩ ?_
          refine e3_br (M := tbM221) rfl rfl rfl Iff.rfl (fun hc => ?_) (fun hc => ?_)
          · replace h := h.1 hc
            refine e3_K [0] 208 [(2, 40), (3, 0), (3, 0), (0, l3), (0, l4), (3, 0)] [] (H4) (G5) (wZ L xs) (M := tbM221) rfl rfl trivial ?_
            refine e3_fgt [false, false, false, true, false, false] ?_
            exact sM_readPattern_208 L xs Q _ _ _ h
          · replace h := h.2 hc
            refine e3_K [0, 0] 87 [(2, 40), (3, 0), (3, 0), (0, l3), (0, l4), (3, 0)] [(0, l3), (2, 40)] (H4) (G5) (wZ L xs) (M := tbM221) rfl rfl trivial ?_
            refine e3_call (o := 0) (k := 232) (M2 := tbM232) (f1 := 0) (w1 := 0) (as := [(2, 40), (0, l3)]) (rest := []) (M := tbM221) rfl rfl rfl trivial (Nat.le_of_ble_eq_true rfl) (Nat.le_of_ble_eq_true rfl) (Nat.le_of_ble_eq_true rfl) ?_
            refine e3_mono (sM_comesInto L xs _ _ _ _ h) (fun r H7 G8 h => ?_)
            obtain ⟨rfl, h⟩ := h
            change e3_Ev _ _ _ _ 90 [(2, 40), (3, 0), (3, 0), (0, l3), (0, l4), (3, 0)] [] H7 G8 _
            refine e3_K [0] 91 [(2, 40), (3, 0), (3, 0), (0, l3), (0, l4), (3, 0)] [(2, 40)] (H7) (G8) (wZ L xs) (M := tbM221) rfl rfl trivial ?_
            refine e3_call (o := 0) (k := 233) (M2 := tbM233) (f1 := 6) (w1 := 132) (as := [(2, 40)]) (rest := []) (M := tbM221) rfl rfl rfl trivial (Nat.le_of_ble_eq_true rfl) (Nat.le_of_ble_eq_true rfl) (Nat.le_of_ble_eq_true rfl) ?_
            refine e3_mono (sM_goesOn L xs _ _ _ h) (fun r H10 G11 h => ?_)
            obtain ⟨x12, rfl, h⟩ := h
            change e3_Ev _ _ _ _ 94 [(2, 40), (3, 0), (3, 0), (0, l3), (0, l4), (3, 0)] [(0, x12)] H10 G11 _
            refine e3_br (M := tbM221) rfl rfl rfl Iff.rfl (fun hc => ?_) (fun hc => ?_)
            · replace h := h.1 hc
              refine e3_K [0, 2] 176 [(2, 40), (3, 0), (3, 0), (0, l3), (0, l4), (3, 0)] [(0, (H10 40 7))] (H10) (G11) (wZ L xs) (M := tbM221) rfl rfl ⟨trivial, trivial⟩ ?_
              refine e3_br (M := tbM221) rfl rfl rfl Iff.rfl (fun hc => ?_) (fun hc => ?_)
              · replace h := h.1 hc
                refine e3_K [0, 0, 2, 0, 0, 2] 189 [(2, 40), (3, 0), (3, 0), (0, l3), (0, l4), (3, 0)] [] (e3_up H10 40 32 (e3_w32 ((H10 40 32) - 1))) (G11) (wZ L xs) (M := tbM221) rfl rfl ⟨trivial, trivial, trivial⟩ ?_
                generalize hH13 : (e3_up H10 40 32 (e3_w32 ((H10 40 32) - 1))) = H13
                replace h := h H13 hH13.symm
                obtain ⟨o14, h⟩ := h
                refine e3_K [0, 2, 0, 0, 4, 0, 2, 2, 0, 0] 15 [(2, 40), (3, 0), (3, 0), (0, (H13 59 (H13 40 32))), (0, (H13 40 32)), (3, 0)] [] (H13) (G11) (wZ L xs) (M := tbM221) rfl rfl ⟨trivial, trivial, trivial, o14, trivial⟩ ?_
                exact ih _ _ _ _ h
              · replace h := h.2 hc
                exact ih _ _ _ _ h
            · replace h := h.2 hc
              obtain ⟨o15, o16, h⟩ := h
              refine e3_K [0, 4, 0, 4, 0, 2, 0, 0, 2, 2, 0] 115 [(2, 40), (3, 0), (3, 0), (0, l3), (0, l4), (3, 0)] [(0, 6), (0, (H10 46 (H10 59 (e3_w32 ((H10 40 32) - 1)))))] (H10) (G11) (wZ L xs) (M := tbM221) rfl rfl ⟨trivial, trivial, trivial, o15, o16, trivial⟩ ?_
              refine e3_br (M := tbM221) rfl rfl rfl Iff.rfl (fun hc => ?_) (fun hc => ?_)
              · replace h := h.1 hc
                obtain ⟨o17, h⟩ := h
                refine e3_K [0, 4, 0, 2, 0, 0, 2, 0] 131 [(2, 40), (3, 0), (3, 0), (0, l3), (0, l4), (3, 0)] [(0, 6), (0, (H10 60 (e3_w32 ((H10 40 32) - 1))))] (H10) (G11) (wZ L xs) (M := tbM221) rfl rfl ⟨trivial, trivial, o17, trivial⟩ ?_
                refine e3_br (M := tbM221) rfl rfl rfl Iff.rfl (fun hc => ?_) (fun hc => ?_)
                · replace h := h.1 hc
                  refine e3_K [0, 0] 139 [(2, 40), (3, 0), (3, 0), (0, l3), (0, l4), (3, 0)] [(0, 1)] (H10) (G11) (wZ L xs) (M := tbM221) rfl rfl trivial ?_
                  refine e3_fgt [true, false, false, false, true, false] ?_
                  exact sM_readPattern_139 L xs Q (fun l3 l4 H G => wM_readPattern_15 Q nn l3 l4 H G) ih _ _ _ _ h
                · replace h := h.2 hc
                  refine e3_fgt [true, false, false, false, true, false] ?_
                  exact sM_readPattern_138 L xs Q (fun l3 l4 H G => wM_readPattern_15 Q nn l3 l4 H G) ih _ _ _ h
              · replace h := h.2 hc
                refine e3_fgt [true, false, false, false, true, false] ?_
                exact sM_readPattern_138 L xs Q (fun l3 l4 H G => wM_readPattern_15 Q nn l3 l4 H G) ih _ _ _ h
        · replace h := h.2 hc
          refine e3_fgt [false, false, false, true, false, false] ?_
          exact sM_readPattern_208 L xs Q _ _ _ h
    · replace h := h.2 hc
      refine e3_fgt [false, false, false, true, false, false] ?_
      exact sM_readPattern_208 L xs Q _ _ _ h
set_option maxRecDepth 100000 in
set_option maxHeartbeats 4000000 in
theorem sM_readPattern (L : Nat) (xs : Nat → Int32) (Q : Int → e3_H → e3_G → Prop) (l1 : Int) (l2 : Int) (H : e3_H) (G : e3_G) (h : wM_readPattern Q l1 l2 H G) : e3_Ev (wB L xs) 8 185 221 0 [(2, 40), (0, l1), (0, l2), (3, 0), (3, 0), (3, 0)] [] H G (e3_q0 Q) := by
  unfold wM_readPattern at h
  refine e3_K [0, 0, 2] 5 [(2, 40), (0, l1), (0, l2), (3, 0), (3, 0), (3, 0)] [] (e3_up H 40 32 0) (G) (wZ L xs) (M := tbM221) rfl rfl ⟨trivial, trivial⟩ ?_
  generalize hH1 : (e3_up H 40 32 0) = H1
  replace h := h H1 hH1.symm
  refine e3_K [0, 0, 0] 8 [(2, 40), (0, l1), (0, l2), (3, 0), (3, 0), (3, 0)] [(0, l2), (0, l1), (2, 40)] (H1) (G) (wZ L xs) (M := tbM221) rfl rfl trivial ?_
  refine e3_call (o := 0) (k := 222) (M2 := tbM222) (f1 := 7) (w1 := 155) (as := [(2, 40), (0, l1), (0, l2)]) (rest := []) (M := tbM221) rfl rfl rfl trivial (Nat.le_of_ble_eq_true rfl) (Nat.le_of_ble_eq_true rfl) (Nat.le_of_ble_eq_true rfl) ?_
  refine e3_mono (sM_begins L xs _ _ _ _ _ h) (fun r H2 G3 h => ?_)
  obtain ⟨x4, rfl, h⟩ := h
  change e3_Ev _ _ _ _ 11 [(2, 40), (0, l1), (0, l2), (3, 0), (3, 0), (3, 0)] [(0, x4)] H2 G3 _
  refine e3_K [0, 0, 0] 15 [(2, 40), (0, l1), (0, l2), (0, x4), (0, 0), (3, 0)] [] (H2) (G3) (wZ L xs) (M := tbM221) rfl rfl trivial ?_
  refine e3_fgt [true, false, false, true, true, false] ?_
  obtain ⟨nl, h⟩ := h
  exact sM_readPattern_15 L xs Q nl _ _ _ _ h
