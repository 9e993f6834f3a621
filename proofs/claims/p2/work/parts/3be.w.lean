/-- LetterPostModel.sort(IIII)I -/
def wM_sort (Q : Int → e3_H → e3_G → Prop) (l1 : Int) (l2 : Int) (l3 : Int) (l4 : Int) (H : e3_H) (G : e3_G) : Prop :=
  (wM_runs (fun x3 H1 G2 => Q x3 H1 G2) l1 l2 l3 l4 1 H G)
set_option maxRecDepth 100000 in
set_option maxHeartbeats 4000000 in
theorem sM_sort (L : Nat) (xs : Nat → Int32) (Q : Int → e3_H → e3_G → Prop) (l1 : Int) (l2 : Int) (l3 : Int) (l4 : Int) (H : e3_H) (G : e3_G) (h : wM_sort Q l1 l2 l3 l4 H G) : e3_Ev (wB L xs) 5 132 285 0 [(2, 40), (0, l1), (0, l2), (0, l3), (0, l4)] [] H G (e3_q0 Q) := by
  unfold wM_sort at h
  refine e3_K [0, 0, 0, 0, 0, 0] 7 [(2, 40), (0, l1), (0, l2), (0, l3), (0, l4)] [(0, 1), (0, l4), (0, l3), (0, l2), (0, l1), (2, 40)] (H) (G) (wZ L xs) (M := tbM285) rfl rfl trivial ?_
  refine e3_call (o := 0) (k := 286) (M2 := tbM286) (f1 := 4) (w1 := 102) (as := [(2, 40), (0, l1), (0, l2), (0, l3), (0, l4), (0, 1)]) (rest := []) (M := tbM285) rfl rfl rfl trivial (Nat.le_of_ble_eq_true rfl) (Nat.le_of_ble_eq_true rfl) (Nat.le_of_ble_eq_true rfl) ?_
  refine e3_mono (sM_runs L xs _ _ _ _ _ _ _ _ h) (fun r H1 G2 h => ?_)
  obtain ⟨x3, rfl, h⟩ := h
  change e3_Ev _ _ _ _ 10 [(2, 40), (0, l1), (0, l2), (0, l3), (0, l4)] [(0, x3)] H1 G2 _
  exact e3_reti (M := tbM285) rfl rfl rfl ⟨_, rfl, h⟩
/-- LetterPostModel.plain(IIII)I -/
def wM_plain (Q : Int → e3_H → e3_G → Prop) (l1 : Int) (l2 : Int) (l3 : Int) (l4 : Int) (H : e3_H) (G : e3_G) : Prop :=
  (wM_runs (fun x3 H1 G2 => Q x3 H1 G2) l1 l2 l3 l4 0 H G)
set_option maxRecDepth 100000 in
set_option maxHeartbeats 4000000 in
theorem sM_plain (L : Nat) (xs : Nat → Int32) (Q : Int → e3_H → e3_G → Prop) (l1 : Int) (l2 : Int) (l3 : Int) (l4 : Int) (H : e3_H) (G : e3_G) (h : wM_plain Q l1 l2 l3 l4 H G) : e3_Ev (wB L xs) 5 132 297 0 [(2, 40), (0, l1), (0, l2), (0, l3), (0, l4)] [] H G (e3_q0 Q) := by
  unfold wM_plain at h
  refine e3_K [0, 0, 0, 0, 0, 0] 7 [(2, 40), (0, l1), (0, l2), (0, l3), (0, l4)] [(0, 0), (0, l4), (0, l3), (0, l2), (0, l1), (2, 40)] (H) (G) (wZ L xs) (M := tbM297) rfl rfl trivial ?_
  refine e3_call (o := 0) (k := 286) (M2 := tbM286) (f1 := 4) (w1 := 102) (as := [(2, 40), (0, l1), (0, l2), (0, l3), (0, l4), (0, 0)]) (rest := []) (M := tbM297) rfl rfl rfl trivial (Nat.le_of_ble_eq_true rfl) (Nat.le_of_ble_eq_true rfl) (Nat.le_of_ble_eq_true rfl) ?_
  refine e3_mono (sM_runs L xs _ _ _ _ _ _ _ _ h) (fun r H1 G2 h => ?_)
  obtain ⟨x3, rfl, h⟩ := h
  change e3_Ev _ _ _ _ 10 [(2, 40), (0, l1), (0, l2), (0, l3), (0, l4)] [(0, x3)] H1 G2 _
  exact e3_reti (M := tbM297) rfl rfl rfl ⟨_, rfl, h⟩
/-- LetterPostModel.told(I)I -/
def wM_told_98 (Q : Int → e3_H → e3_G → Prop) (s0 : Int) (H : e3_H) (G : e3_G) : Prop :=
  Q s0 H G
def wM_told (Q : Int → e3_H → e3_G → Prop) (l1 : Int) (H : e3_H) (G : e3_G) : Prop :=
  (wM_in (fun x3 H1 G2 => (((x3 : Int) = 0 → Q (-1) H1 G2) ∧ (¬ ((x3 : Int) = 0) → ((((H1 40 126) : Int) = 0 → Q 0 H1 G2) ∧ (¬ (((H1 40 126) : Int) = 0) → (((l1 : Int) = 0 → (wM_told_98 Q (H1 40 119) H1 G2)) ∧ (¬ ((l1 : Int) = 0) → (((l1 : Int) = 1 → (wM_told_98 Q (H1 40 120) H1 G2)) ∧ (¬ ((l1 : Int) = 1) → (((l1 : Int) = 2 → (wM_told_98 Q (H1 40 121) H1 G2)) ∧ (¬ ((l1 : Int) = 2) → (((l1 : Int) = 3 → (wM_told_98 Q (H1 40 122) H1 G2)) ∧ (¬ ((l1 : Int) = 3) → (((l1 : Int) = 4 → (wM_told_98 Q (H1 40 123) H1 G2)) ∧ (¬ ((l1 : Int) = 4) → (((l1 : Int) = 5 → (wM_told_98 Q (H1 40 124) H1 G2)) ∧ (¬ ((l1 : Int) = 5) → (wM_told_98 Q (H1 40 125) H1 G2)))))))))))))))))) l1 0 6 H G)
set_option maxRecDepth 100000 in
set_option maxHeartbeats 4000000 in
theorem sM_told_98 (L : Nat) (xs : Nat → Int32) (Q : Int → e3_H → e3_G → Prop) (s0 : Int) (H : e3_H) (G : e3_G) (h : wM_told_98 Q s0 H G) : e3_Ev (wB L xs) 1 25 298 98 [(3, 0), (3, 0)] [(0, s0)] H G (e3_q0 Q) := by
  unfold wM_told_98 at h
  exact e3_reti (M := tbM298) rfl rfl rfl ⟨_, rfl, h⟩
set_option maxRecDepth 100000 in
set_option maxHeartbeats 4000000 in
theorem sM_told (L : Nat) (xs : Nat → Int32) (Q : Int → e3_H → e3_G → Prop) (l1 : Int) (H : e3_H) (G : e3_G) (h : wM_told Q l1 H G) : e3_Ev (wB L xs) 1 25 298 0 [(2, 40), (0, l1)] [] H G (e3_q0 Q) := by
  unfold wM_told at h
  refine e3_K [0, 0, 0, 2] 6 [(2, 40), (0, l1)] [(1, 6), (1, 0), (1, l1)] (H) (G) (wZ L xs) (M := tbM298) rfl rfl ⟨trivial, trivial⟩ ?_
  refine e3_call (o := 0) (k := 198) (M2 := tbM198) (f1 := 0) (w1 := 0) (as := [(1, l1), (1, 0), (1, 6)]) (rest := []) (M := tbM298) rfl rfl rfl trivial (Nat.le_of_ble_eq_true rfl) (Nat.le_of_ble_eq_true rfl) (Nat.le_of_ble_eq_true rfl) ?_
  refine e3_mono (sM_in L xs _ _ _ _ _ _ h) (fun r H1 G2 h => ?_)
  obtain ⟨x3, rfl, h⟩ := h
  change e3_Ev _ _ _ _ 9 [(2, 40), (0, l1)] [(0, x3)] H1 G2 _
  refine e3_br (M := tbM298) rfl rfl rfl Iff.rfl (fun hc => ?_) (fun hc => ?_)
  · replace h := h.1 hc
    refine e3_K [0] 13 [(2, 40), (0, l1)] [(0, (-1))] (H1) (G2) (wZ L xs) (M := tbM298) rfl rfl trivial ?_
    exact e3_reti (M := tbM298) rfl rfl rfl ⟨_, rfl, h⟩
  · replace h := h.2 hc
    refine e3_K [0, 2] 18 [(2, 40), (0, l1)] [(0, (H1 40 126))] (H1) (G2) (wZ L xs) (M := tbM298) rfl rfl ⟨trivial, trivial⟩ ?_
    refine e3_br (M := tbM298) rfl rfl rfl Iff.rfl (fun hc => ?_) (fun hc => ?_)
    · replace h := h.1 hc
      refine e3_K [0] 22 [(2, 40), (0, l1)] [(0, 0)] (H1) (G2) (wZ L xs) (M := tbM298) rfl rfl trivial ?_
      exact e3_reti (M := tbM298) rfl rfl rfl ⟨_, rfl, h⟩
    · replace h := h.2 hc
      refine e3_K [0] 24 [(2, 40), (0, l1)] [(0, l1)] (H1) (G2) (wZ L xs) (M := tbM298) rfl rfl trivial ?_
      refine e3_br (M := tbM298) rfl rfl rfl Iff.rfl (fun hc => ?_) (fun hc => ?_)
      · replace h := h.1 hc
        refine e3_K [0, 2, 0] 98 [(2, 40), (0, l1)] [(0, (H1 40 119))] (H1) (G2) (wZ L xs) (M := tbM298) rfl rfl ⟨trivial, trivial⟩ ?_
        refine e3_fgt [false, false] ?_
        exact sM_told_98 L xs Q _ _ _ h
      · replace h := h.2 hc
        refine e3_K [0, 0] 36 [(2, 40), (0, l1)] [(0, 1), (0, l1)] (H1) (G2) (wZ L xs) (M := tbM298) rfl rfl trivial ?_
        refine e3_br (M := tbM298) rfl rfl rfl Iff.rfl (fun hc => ?_) (fun hc => ?_)
        · replace h := h.1 hc
          refine e3_K [0, 2, 0] 98 [(2, 40), (0, l1)] [(0, (H1 40 120))] (H1) (G2) (wZ L xs) (M := tbM298) rfl rfl ⟨trivial, trivial⟩ ?_
          refine e3_fgt [false, false] ?_
          exact sM_told_98 L xs Q _ _ _ h
        · replace h := h.2 hc
          refine e3_K [0, 0] 48 [(2, 40), (0, l1)] [(0, 2), (0, l1)] (H1) (G2) (wZ L xs) (M := tbM298) rfl rfl trivial ?_
          refine e3_br (M := tbM298) rfl rfl rfl Iff.rfl (fun hc => ?_) (fun hc => ?_)
          · replace h := h.1 hc
            refine e3_K [0, 2, 0] 98 [(2, 40), (0, l1)] [(0, (H1 40 121))] (H1) (G2) (wZ L xs) (M := tbM298) rfl rfl ⟨trivial, trivial⟩ ?_
            refine e3_fgt [false, false] ?_
            exact sM_told_98 L xs Q _ _ _ h
          · replace h := h.2 hc
            refine e3_K [0, 0] 60 [(2, 40), (0, l1)] [(0, 3), (0, l1)] (H1) (G2) (wZ L xs) (M := tbM298) rfl rfl trivial ?_
            refine e3_br (M := tbM298) rfl rfl rfl Iff.rfl (fun hc => ?_) (fun hc => ?_)
            · replace h := h.1 hc
              refine e3_K [0, 2, 0] 98 [(2, 40), (0, l1)] [(0, (H1 40 122))] (H1) (G2) (wZ L xs) (M := tbM298) rfl rfl ⟨trivial, trivial⟩ ?_
              refine e3_fgt [false, false] ?_
              exact sM_told_98 L xs Q _ _ _ h
            · replace h := h.2 hc
              refine e3_K [0, 0] 72 [(2, 40), (0, l1)] [(0, 4), (0, l1)] (H1) (G2) (wZ L xs) (M := tbM298) rfl rfl trivial ?_
              refine e3_br (M := tbM298) rfl rfl rfl Iff.rfl (fun hc => ?_) (fun hc => ?_)
              · replace h := h.1 hc
                refine e3_K [0, 2, 0] 98 [(2, 40), (0, l1)] [(0, (H1 40 123))] (H1) (G2) (wZ L xs) (M := tbM298) rfl rfl ⟨trivial, trivial⟩ ?_
                refine e3_fgt [false, false] ?_
                exact sM_told_98 L xs Q _ _ _ h
              · replace h := h.2 hc
                refine e3_K [0, 0] 84 [(2, 40), (0, l1)] [(0, 5), (0, l1)] (H1) (G2) (wZ L xs) (M := tbM298) rfl rfl trivial ?_
                refine e3_br (M := tbM298) rfl rfl rfl Iff.rfl (fun hc => ?_) (fun hc => ?_)
                · replace h := h.1 hc
                  refine e3_K [0, 2, 0] 98 [(2, 40), (0, l1)] [(0, (H1 40 124))] (H1) (G2) (wZ L xs) (M := tbM298) rfl rfl ⟨trivial, trivial⟩ ?_
                  refine e3_fgt [false, false] ?_
                  exact sM_told_98 L xs Q _ _ _ h
                · replace h := h.2 hc
                  refine e3_K [0, 2] 98 [(2, 40), (0, l1)] [(0, (H1 40 125))] (H1) (G2) (wZ L xs) (M := tbM298) rfl rfl ⟨trivial, trivial⟩ ?_
                  refine e3_fgt [false, false] ?_
                  exact sM_told_98 L xs Q _ _ _ h
/-- LetterPostModel.guard(I)I -/
def wM_guard_41 (Q : Int → e3_H → e3_G → Prop) (s0 : Int) (H : e3_H) (G : e3_G) : Prop :=
  Q s0 H G
def wM_guard_21 (Q : Int → e3_H → e3_G → Prop) (l1 : Int) (s0 : Int) (s1 : Int) (s2 : Int) (H : e3_H) (G : e3_G) : Prop :=
  (wM_in (fun x3 H1 G2 => (((x3 : Int) = 0 → (wM_guard_41 Q (-4) H1 G2)) ∧ (¬ ((x3 : Int) = 0) → ((0 : Int) ≤ l1 ∧ (l1 : Int) < 32) ∧ (wM_guard_41 Q (H1 137 l1) H1 G2)))) s2 s1 (e3_w32 (s0 - 1)) H G)
def wM_guard (Q : Int → e3_H → e3_G → Prop) (l1 : Int) (H : e3_H) (G : e3_G) : Prop :=
  ((((H 40 123) : Int) < 32 → (wM_guard_21 Q l1 (H 40 123) 0 l1 H G)) ∧ (¬ (((H 40 123) : Int) < 32) → (wM_guard_21 Q l1 32 0 l1 H G)))
set_option maxRecDepth 100000 in
set_option maxHeartbeats 4000000 in
theorem sM_guard_41 (L : Nat) (xs : Nat → Int32) (Q : Int → e3_H → e3_G → Prop) (s0 : Int) (H : e3_H) (G : e3_G) (h : wM_guard_41 Q s0 H G) : e3_Ev (wB L xs) 1 25 299 41 [(3, 0), (3, 0)] [(0, s0)] H G (e3_q0 Q) := by
  unfold wM_guard_41 at h
  exact e3_reti (M := tbM299) rfl rfl rfl ⟨_, rfl, h⟩
set_option maxRecDepth 100000 in
set_option maxHeartbeats 4000000 in
theorem sM_guard_21 (L : Nat) (xs : Nat → Int32) (Q : Int → e3_H → e3_G → Prop) (l1 : Int) (s0 : Int) (s1 : Int) (s2 : Int) (H : e3_H) (G : e3_G) (h : wM_guard_21 Q l1 s0 s1 s2 H G) : e3_Ev (wB L xs) 1 25 299 21 [(2, 40), (0, l1)] [(0, s0), (1, s1), (1, s2)] H G (e3_q0 Q) := by
  unfold wM_guard_21 at h
  refine e3_K [0, 0, 0] 24 [(2, 40), (0, l1)] [(1, (e3_w32 (s0 - 1))), (1, s1), (1, s2)] (H) (G) (wZ L xs) (M := tbM299) rfl rfl trivial ?_
  refine e3_call (o := 0) (k := 198) (M2 := tbM198) (f1 := 0) (w1 := 0) (as := [(1, s2), (1, s1), (1, (e3_w32 (s0 - 1)))]) (rest := []) (M := tbM299) rfl rfl rfl trivial (Nat.le_of_ble_eq_true rfl) (Nat.le_of_ble_eq_true rfl) (Nat.le_of_ble_eq_true rfl) ?_
  refine e3_mono (sM_in L xs _ _ _ _ _ _ h) (fun r H1 G2 h => ?_)
  obtain ⟨x3, rfl, h⟩ := h
  change e3_Ev _ _ _ _ 27 [(2, 40), (0, l1)] [(0, x3)] H1 G2 _
  refine e3_br (M := tbM299) rfl rfl rfl Iff.rfl (fun hc => ?_) (fun hc => ?_)
  · replace h := h.1 hc
    refine e3_K [0] 41 [(2, 40), (0, l1)] [(0, (-4))] (H1) (G2) (wZ L xs) (M := tbM299) rfl rfl trivial ?_
    refine e3_fgt [false, false] ?_
    exact sM_guard_41 L xs Q _ _ _ h
  · replace h := h.2 hc
    obtain ⟨o4, h⟩ := h
    refine e3_K [0, 4, 0, 2, 0] 41 [(2, 40), (0, l1)] [(0, (H1 137 l1))] (H1) (G2) (wZ L xs) (M := tbM299) rfl rfl ⟨trivial, o4, trivial⟩ ?_
    refine e3_fgt [false, false] ?_
    exact sM_guard_41 L xs Q _ _ _ h
set_option maxRecDepth 100000 in
set_option maxHeartbeats 4000000 in
theorem sM_guard (L : Nat) (xs : Nat → Int32) (Q : Int → e3_H → e3_G → Prop) (l1 : Int) (H : e3_H) (G : e3_G) (h : wM_guard Q l1 H G) : e3_Ev (wB L xs) 1 25 299 0 [(2, 40), (0, l1)] [] H G (e3_q0 Q) := by
  unfold wM_guard at h
  refine e3_K [0, 0, 0, 0, 2, 0] 9 [(2, 40), (0, l1)] [(0, 32), (0, (H 40 123)), (1, 0), (1, l1)] (H) (G) (wZ L xs) (M := tbM299) rfl rfl ⟨trivial, trivial⟩ ?_
  refine e3_br (M := tbM299) rfl rfl rfl Iff.rfl (fun hc => ?_) (fun hc => ?_)
  · replace h := h.1 hc
    refine e3_K [0, 2, 0] 21 [(2, 40), (0, l1)] [(0, (H 40 123)), (1, 0), (1, l1)] (H) (G) (wZ L xs) (M := tbM299) rfl rfl ⟨trivial, trivial⟩ ?_
    exact sM_guard_21 L xs Q _ _ _ _ _ _ h
  · replace h := h.2 hc
    refine e3_K [0] 21 [(2, 40), (0, l1)] [(0, 32), (1, 0), (1, l1)] (H) (G) (wZ L xs) (M := tbM299) rfl rfl trivial ?_
    exact sM_guard_21 L xs Q _ _ _ _ _ _ h
/-- LetterPostModel.bound(I)I -/
def wM_bound_27 (Q : Int → e3_H → e3_G → Prop) (s0 : Int) (H : e3_H) (G : e3_G) : Prop :=
  Q s0 H G
def wM_bound (Q : Int → e3_H → e3_G → Prop) (l1 : Int) (H : e3_H) (G : e3_G) : Prop :=
  (wM_in (fun x3 H1 G2 => (((x3 : Int) = 0 → (wM_bound_27 Q (-4) H1 G2)) ∧ (¬ ((x3 : Int) = 0) → ((0 : Int) ≤ l1 ∧ (l1 : Int) < 8) ∧ (wM_bound_27 Q (H1 138 l1) H1 G2)))) l1 0 (e3_w32 ((H 40 128) - 1)) H G)
set_option maxRecDepth 100000 in
set_option maxHeartbeats 4000000 in
theorem sM_bound_27 (L : Nat) (xs : Nat → Int32) (Q : Int → e3_H → e3_G → Prop) (s0 : Int) (H : e3_H) (G : e3_G) (h : wM_bound_27 Q s0 H G) : e3_Ev (wB L xs) 1 25 300 27 [(3, 0), (3, 0)] [(0, s0)] H G (e3_q0 Q) := by
  unfold wM_bound_27 at h
  exact e3_reti (M := tbM300) rfl rfl rfl ⟨_, rfl, h⟩
set_option maxRecDepth 100000 in
set_option maxHeartbeats 4000000 in
theorem sM_bound (L : Nat) (xs : Nat → Int32) (Q : Int → e3_H → e3_G → Prop) (l1 : Int) (H : e3_H) (G : e3_G) (h : wM_bound Q l1 H G) : e3_Ev (wB L xs) 1 25 300 0 [(2, 40), (0, l1)] [] H G (e3_q0 Q) := by
  unfold wM_bound at h
  refine e3_K [0, 0, 0, 0, 2, 0, 0, 0] 10 [(2, 40), (0, l1)] [(1, (e3_w32 ((H 40 128) - 1))), (1, 0), (1, l1)] (H) (G) (wZ L xs) (M := tbM300) rfl rfl ⟨trivial, trivial⟩ ?_
  refine e3_call (o := 0) (k := 198) (M2 := tbM198) (f1 := 0) (w1 := 0) (as := [(1, l1), (1, 0), (1, (e3_w32 ((H 40 128) - 1)))]) (rest := []) (M := tbM300) rfl rfl rfl trivial (Nat.le_of_ble_eq_true rfl) (Nat.le_of_ble_eq_true rfl) (Nat.le_of_ble_eq_true rfl) ?_
  refine e3_mono (sM_in L xs _ _ _ _ _ _ h) (fun r H1 G2 h => ?_)
  obtain ⟨x3, rfl, h⟩ := h
  change e3_Ev _ _ _ _ 13 [(2, 40), (0, l1)] [(0, x3)] H1 G2 _
  refine e3_br (M := tbM300) rfl rfl rfl Iff.rfl (fun hc => ?_) (fun hc => ?_)
  · replace h := h.1 hc
    refine e3_K [0] 27 [(2, 40), (0, l1)] [(0, (-4))] (H1) (G2) (wZ L xs) (M := tbM300) rfl rfl trivial ?_
    refine e3_fgt [false, false] ?_
    exact sM_bound_27 L xs Q _ _ _ h
  · replace h := h.2 hc
    obtain ⟨o4, h⟩ := h
    refine e3_K [0, 4, 0, 2, 0] 27 [(2, 40), (0, l1)] [(0, (H1 138 l1))] (H1) (G2) (wZ L xs) (M := tbM300) rfl rfl ⟨trivial, o4, trivial⟩ ?_
    refine e3_fgt [false, false] ?_
    exact sM_bound_27 L xs Q _ _ _ h
/-- LetterPostModel.count(I)I -/
def wM_count_60 (Q : Int → e3_H → e3_G → Prop) (s0 : Int) (H : e3_H) (G : e3_G) : Prop :=
  Q s0 H G
def wM_count (Q : Int → e3_H → e3_G → Prop) (l1 : Int) (H : e3_H) (G : e3_G) : Prop :=
  (((l1 : Int) = 0 → (wM_count_60 Q (H 40 10) H G)) ∧ (¬ ((l1 : Int) = 0) → (((l1 : Int) = 1 → (wM_count_60 Q (H 40 41) H G)) ∧ (¬ ((l1 : Int) = 1) → (((l1 : Int) = 2 → (wM_count_60 Q (H 40 109) H G)) ∧ (¬ ((l1 : Int) = 2) → (((l1 : Int) = 3 → (wM_count_60 Q (H 40 1) H G)) ∧ (¬ ((l1 : Int) = 3) → (((l1 : Int) = 4 → (wM_count_60 Q (H 40 11) H G)) ∧ (¬ ((l1 : Int) = 4) → (wM_count_60 Q (-1) H G)))))))))))
set_option maxRecDepth 100000 in
set_option maxHeartbeats 4000000 in
theorem sM_count_60 (L : Nat) (xs : Nat → Int32) (Q : Int → e3_H → e3_G → Prop) (s0 : Int) (H : e3_H) (G : e3_G) (h : wM_count_60 Q s0 H G) : e3_Ev (wB L xs) 0 0 301 60 [(3, 0), (3, 0)] [(0, s0)] H G (e3_q0 Q) := by
  unfold wM_count_60 at h
  exact e3_reti (M := tbM301) rfl rfl rfl ⟨_, rfl, h⟩
set_option maxRecDepth 100000 in
set_option maxHeartbeats 4000000 in
theorem sM_count (L : Nat) (xs : Nat → Int32) (Q : Int → e3_H → e3_G → Prop) (l1 : Int) (H : e3_H) (G : e3_G) (h : wM_count Q l1 H G) : e3_Ev (wB L xs) 0 0 301 0 [(2, 40), (0, l1)] [] H G (e3_q0 Q) := by
  unfold wM_count at h
  refine e3_K [0] 1 [(2, 40), (0, l1)] [(0, l1)] (H) (G) (wZ L xs) (M := tbM301) rfl rfl trivial ?_
  refine e3_br (M := tbM301) rfl rfl rfl Iff.rfl (fun hc => ?_) (fun hc => ?_)
  · replace h := h.1 hc
    refine e3_K [0, 2, 0] 60 [(2, 40), (0, l1)] [(0, (H 40 10))] (H) (G) (wZ L xs) (M := tbM301) rfl rfl ⟨trivial, trivial⟩ ?_
    refine e3_fgt [false, false] ?_
    exact sM_count_60 L xs Q _ _ _ h
  · replace h := h.2 hc
    refine e3_K [0, 0] 13 [(2, 40), (0, l1)] [(0, 1), (0, l1)] (H) (G) (wZ L xs) (M := tbM301) rfl rfl trivial ?_
    refine e3_br (M := tbM301) rfl rfl rfl Iff.rfl (fun hc => ?_) (fun hc => ?_)
    · replace h := h.1 hc
      refine e3_K [0, 2, 0] 60 [(2, 40), (0, l1)] [(0, (H 40 41))] (H) (G) (wZ L xs) (M := tbM301) rfl rfl ⟨trivial, trivial⟩ ?_
      refine e3_fgt [false, false] ?_
      exact sM_count_60 L xs Q _ _ _ h
    · replace h := h.2 hc
      refine e3_K [0, 0] 25 [(2, 40), (0, l1)] [(0, 2), (0, l1)] (H) (G) (wZ L xs) (M := tbM301) rfl rfl trivial ?_
      refine e3_br (M := tbM301) rfl rfl rfl Iff.rfl (fun hc => ?_) (fun hc => ?_)
      · replace h := h.1 hc
        refine e3_K [0, 2, 0] 60 [(2, 40), (0, l1)] [(0, (H 40 109))] (H) (G) (wZ L xs) (M := tbM301) rfl rfl ⟨trivial, trivial⟩ ?_
        refine e3_fgt [false, false] ?_
        exact sM_count_60 L xs Q _ _ _ h
      · replace h := h.2 hc
        refine e3_K [0, 0] 37 [(2, 40), (0, l1)] [(0, 3), (0, l1)] (H) (G) (wZ L xs) (M := tbM301) rfl rfl trivial ?_
        refine e3_br (M := tbM301) rfl rfl rfl Iff.rfl (fun hc => ?_) (fun hc => ?_)
        · replace h := h.1 hc
          refine e3_K [0, 2, 0] 60 [(2, 40), (0, l1)] [(0, (H 40 1))] (H) (G) (wZ L xs) (M := tbM301) rfl rfl ⟨trivial, trivial⟩ ?_
          refine e3_fgt [false, false] ?_
          exact sM_count_60 L xs Q _ _ _ h
        · replace h := h.2 hc
          refine e3_K [0, 0] 49 [(2, 40), (0, l1)] [(0, 4), (0, l1)] (H) (G) (wZ L xs) (M := tbM301) rfl rfl trivial ?_
          refine e3_br (M := tbM301) rfl rfl rfl Iff.rfl (fun hc => ?_) (fun hc => ?_)
          · replace h := h.1 hc
            refine e3_K [0, 2, 0] 60 [(2, 40), (0, l1)] [(0, (H 40 11))] (H) (G) (wZ L xs) (M := tbM301) rfl rfl ⟨trivial, trivial⟩ ?_
            refine e3_fgt [false, false] ?_
            exact sM_count_60 L xs Q _ _ _ h
          · replace h := h.2 hc
            refine e3_K [0] 60 [(2, 40), (0, l1)] [(0, (-1))] (H) (G) (wZ L xs) (M := tbM301) rfl rfl trivial ?_
            refine e3_fgt [false, false] ?_
            exact sM_count_60 L xs Q _ _ _ h
