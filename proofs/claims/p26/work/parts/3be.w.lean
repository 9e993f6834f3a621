/-- LetterPostModel.sort(IIII)I -/
def wM_sort (Q : Int → e3_H → e3_G → Prop) (l1 : Int) (l2 : Int) (l3 : Int) (l4 : Int) (H : e3_H) (G : e3_G) : Prop :=
  (wM_runs (fun x3 H1 G2 => Q x3 H1 G2) l1 l2 l3 l4 1 H G)
set_option maxRecDepth 100000 in
set_option maxHeartbeats 4000000 in
theorem sM_sort (L : Nat) (xs : Nat → Int32) (Q : Int → e3_H → e3_G → Prop) (l1 : Int) (l2 : Int) (l3 : Int) (l4 : Int) (H : e3_H) (G : e3_G) (h : wM_sort Q l1 l2 l3 l4 H G) : e3_Ev (wB L xs) 5 132 285 0 [(2, 40), (0, l1), (0, l2), (0, l3), (0, l4)] [] H G (e3_q0 Q) := by
  unfold wM_sort at h
  refine e3_K [0, 0, 0, 0, 0, 0] 7 [(2, 40), (0, l1), (0, l2), (0, l3), (0, l4)] [(0, 1), (0, l4), (0, l3), (0, l2), (0, l1), (2, 40)] (H) (G) (wZ L xs) (M := tbM285) rfl rfl trivial ?_
  refine e3_call (o := 0) (k := 286) (M2 := tbM286) (f1 := 4) (w1 := 102) (as := [(2, 40), (0, l1), (0, l2), (0, l3), (0, l4), (0, 1)]) (rest := []) (M := tbM285) rfl rfl rfl trivial (Nat.le_of_ble_eq_true rfl) (Nat.le_of_ble_eq_true rfl) (Nat.le_of_ble_eq_true rfl) ?_
  refine e3_mono (sM_runs L xs _ _ _ _ _ _ _ _ h) (fun r H1 G2 h => ?_)
  obtain ⟨x3, rfl, h⟩ := h
  change e3_Ev _ _ _ _ 10 [(2, 40), (0, l1), (0, l2), (0, l3), (0, l4)] [(0, x3)] H1 G2 _
  exact e3_reti (M := tbM285) rfl rfl rfl ⟨_, rfl, h⟩
/-- LetterPostModel.plain(IIII)I -/
def wM_plain (Q : Int → e3_H → e3_G → Prop) (l1 : Int) (l2 : Int) (l3 : Int) (l4 : Int) (H : e3_H) (G : e3_G) : Prop :=
  (wM_runs (fun x3 H1 G2 => Q x3 H1 G2) l1 l2 l3 l4 0 H G)
set_option maxRecDepth 100000 in
set_option maxHeartbeats 4000000 in
theorem sM_plain (L : Nat) (xs : Nat → Int32) (Q : Int → e3_H → e3_G → Prop) (l1 : Int) (l2 : Int) (l3 : Int) (l4 : Int) (H : e3_H) (G : e3_G) (h : wM_plain Q l1 l2 l3 l4 H G) : e3_Ev (wB L xs) 5 132 297 0 [(2, 40), (0, l1), (0, l2), (0, l3), (0, l4)] [] H G (e3_q0 Q) := by
  unfold wM_plain at h
  refine e3_K [0, 0, 0, 0, 0, 0] 7 [(2, 40), (0, l1), (0, l2), (0, l3), (0, l4)] [(0, 0), (0, l4), (0, l3), (0, l2), (0, l1), (2, 40)] (H) (G) (wZ L xs) (M := tbM297) rfl rfl trivial ?_
  refine e3_call (o := 0) (k := 286) (M2 := tbM286) (f1 := 4) (w1 := 102) (as := [(2, 40), (0, l1), (0, l2), (0, l3), (0, l4), (0, 0)]) (rest := []) (M := tbM297) rfl rfl rfl trivial (Nat.le_of_ble_eq_true rfl) (Nat.le_of_ble_eq_true rfl) (Nat.le_of_ble_eq_true rfl) ?_
  refine e3_mono (sM_runs L xs _ _ _ _ _ _ _ _ h) (fun r H1 G2 h => ?_)
  obtain ⟨x3, rfl, h⟩ := h
  change e3_Ev _ _ _ _ 10 [(2, 40), (0, l1), (0, l2), (0, l3), (0, l4)] [(0, x3)] H1 G2 _
  exact e3_reti (M := tbM297) rfl rfl rfl ⟨_, rfl, h⟩
/-- LetterPostModel.told(I)I -/
def wM_told_98 (Q : Int → e3_H → e3_G → Prop) (s0 : Int) (H : e3_H) (G : e3_G) : Prop :=
  Q s0 H G
def wM_told (Q : Int → e3_H → e3_G → Prop) (l1 : Int) (H : e3_H) (G : e3_G) : Prop :=
  (wM_in (fun x3 H1 G2 => (((x3 : Int) = 0 → Q (-1) H1 G2) ∧ (¬ ((x3 : Int) = 0) → ((((H1 40 126) : Int) = 0 → Q 0 H1 G2) ∧ (¬ (((H1 40 126) : Int) = 0) → (((l1 : Int) = 0 → (wM_told_98 Q (H1 40 119) H1 G2)) ∧ (¬ ((l1 : Int) = 0) → (((l1 : Int) = 1 → (wM_told_98 Q (H1 40 120) H1 G2)) ∧ (¬ ((l1 : Int) = 1) → (((l1 : Int) = 2 → (wM_told_98 Q (H1 40 121) H1 G2)) ∧ (¬ ((l1 : Int) = 2) → (((l1 : Int) = 3 → (wM_told_98 Q (H1 40 122) H1 G2)) ∧ (¬ ((l1 : Int) = 3) → (((l1 : Int) = 4 → (wM_told_98 Q (H1 40 123) H1 G2)) ∧ (¬ ((l1 : Int) = 4) → (((l1 : Int) = 5 → (wM_told_98 Q (H1 40 124) H1 G2)) ∧ (¬ ((l1 : Int) = 5) → (wM_told_98 Q (H1 40 125) H1 G2)))))))))))))))))) l1 0 6 H G)
set_option maxRecDepth 100000 in
set_option maxHeartbeats 4000000 in
theorem sM_told_98 (L : Nat) (xs : Nat → Int32) (Q : Int → e3_H → e3_G → Prop) (s0 : Int) (H : e3_H) (G : e3_G) (h : wM_told_98 Q s0 H G) : e3_Ev (wB L xs) 1 25 298 98 [(3, 0), (3, 0)] [(0, s0)] H G (e3_q0 Q) := by
  unfold wM_told_98 at h
  exact e3_reti (M := tbM298) rfl rfl rfl ⟨_, rfl, h⟩
set_option maxRecDepth 100000 in
set_option maxHeartbeats 4000000 in
theorem sM_told (L : Nat) (xs : Nat → Int32) (Q : Int → e3_H → e3_G → Prop) (l1 : Int) (H : e3_H) (G : e3_G) (h : wM_told Q l1 H G) : e3_Ev (wB L xs) 1 25 298 0 [(2, 40), (0, l1)] [] H G (e3_q0 Q) := by
  unfold wM_told at h
  refine e3_K [0, 0, 0, 2] 6 [(2, 40), (0, l1)] [(1, 6), (1, 0), (1, l1)] (H) (G) (wZ L xs) (M := tbM298) rfl rfl ⟨trivial, trivial⟩ ?_
  refine e3_call (o := 0) (k := 198) (M2 := tbM198) (f1 := 0) (w1 := 0) (as := [(1, l1), (1, 0), (1, 6)]) (rest := []) (M := tbM298) rfl rfl rfl trivial (Nat.le_of_ble_eq_true rfl) (Nat.le_of_ble_eq_true rfl) (Nat.le_of_ble_eq_true rfl) ?_
  refine e3_mono (sM_in L xs _ _ _ _ _ _ h) (fun r H1 G2 h => ?_)
  obtain ⟨x3, rfl, h⟩ := h
  change e3_Ev _ _ _ _ 9 [(2, 40), (0, l1)] [(0, x3)] H1 G2 _
  refine e3_br (M := tbM298) rfl rfl rfl Iff.rfl (fun hc => ?_) (fun hc => ?_)
  · replace h := h.1 hc
    refine e3_K [0] 13 [(2, 40), (0, l1)] [(0, (-1))] (H1) (G2) (wZ L xs) (M := tbM298) rfl rfl trivial ?_
    exact e3_reti (M := tbM298) rfl rfl rfl ⟨_, rfl, h⟩
  · replace h := h.2 hc
    refine e3_K [0, 2] 18 [(2, 40), (0, l1)] [(0, (H1 40 126))] (H1) (G2) (wZ L xs) (M := tbM298) rfl rfl ⟨trivial, trivial⟩ ?_
    refine e3_br (M := tbM298) rfl rfl rfl Iff.rfl (fun hc => ?_) (fun hc => ?_)
    · replace h := h.1 hc
      refine e3_K [0] 22 [(2, 40), (0, l1)] [(0, 0)] (H1) (G2) (wZ L xs) (M := tbM298) rfl rfl trivial ?_
      exact e3_reti (M := tbM298) rfl rfl rfl ⟨_, rfl, h⟩
    · replace h := h.2 hc
      refine e3_K [0] 24 [(2, 40), (0, l1)] [(0, l1)] (H1) (G2) (wZ L xs) (M := tbM298) rfl rfl trivial ?_
      refine e3_br (M := tbM298) rfl rfl rfl Iff.rfl (fun hc => ?_) (fun hc => ?_)
      · replace h := h.1 hc
        refine e3_K [0, 2, 0] 98 [(2, 40), (0, l1)] [(0, (H1 40 119))] (H1) (G2) (wZ L xs) (M := tbM298) rfl rfl ⟨trivial, trivial⟩ ?_
        refine e3_fgt [false, false] ?_
        exact sM_told_98 L xs Q _ _ _ h
      · replace h := h.2 hc
        refine e3_K [0, 0] 36 [(2, 40), (0, l1)] [(0, 1), (0, l1)] (H1) (G2) (wZ L xs) (M := tbM298) rfl rfl trivial ?_
        refine e3_br (M := tbM298) rfl rfl rfl Iff.rfl (fun hc => ?_) (fun hc => ?_)
        · replace h := h.1 hc
          refine e3_K [0, 2, 0] 98 [(2, 40), (0, l1)] [(0, (H1 40 120))] (H1) (G2) (wZ L xs) (M := tbM298) rfl rfl ⟨trivial, trivial⟩ ?_
          refine e3_fgt [false, false] ?_
          exact sM_told_98 L xs Q _ _ _ h
        · replace h := h.2 hc
          refine e3_K [0, 0] 48 [(2, 40), (0, l1)] [(0, 2), (0, l1)] (H1) (G2) (wZ L xs) (M := tbM298) rfl rfl trivial ?_
          refine e3_br (M := tbM298) rfl rfl rfl Iff.rfl (fun hc => ?_) (fun hc => ?_)
          · replace h := h.1 hc
            refine e3_K [0, 2, 0] 98 [(2, 40), (0, l1)] [(0, (H1 40 121))] (H1) (G2) (wZ L xs) (M := tbM298) rfl rfl ⟨trivial, trivial⟩ ?_
            refine e3_fgt [false, false] ?_
            exact sM_told_98 L xs Q _ _ _ h
          · replace h := h.2 hc
            refine e3_K [0, 0] 60 [(2, 40), (0, l1)] [(0, 3), (0, l1)] (H1) (G2) (wZ L xs) (M := tbM298) rfl rfl trivial ?_
            refine e3_br (M := tbM298) rfl rfl rfl Iff.rfl (fun hc => ?_) (fun hc => ?_)
            · replace h := h.1 hc
              refine e3_K [0, 2, 0] 98 [(2, 40), (0, l1)] [(0, (H1 40 122))] (H1) (G2) (wZ L xs) (M := tbM298) rfl rfl ⟨trivial, trivial⟩ ?_
              refine e3_fgt [false, false] ?_
              exact sM_told_98 L xs Q _ _ _ h
            · replace h := h.2 hc
              refine e3_K [0, 0] 72 [(2, 40), (0, l1)] [(0, 4), (0, l1)] (H1) (G2) (wZ L xs) (M := tbM298) rfl rfl trivial ?_
              refine e3_br (M := tbM298) rfl rfl rfl Iff.rfl (fun hc => ?_) (fun hc => ?_)
              · replace h := h.1 hc
                refine e3_K [0, 2, 0] 98 [(2, 40), (0, l1)] [(0, (H1 40 123))] (H1) (G2) (wZ L xs) (M := tbM298) rfl rfl ⟨trivial, trivial⟩ ?_
                refine e3_fgt [false, false] ?_
                exact sM_told_98 L xs Q _ _ _ h
              · replace h := h.2 hc
                refine e3_K [0, 0] 84 [(2, 40), (0, l1)] [(0, 5), (0, l1)] (H1) (G2) (wZ L xs) (M := tbM298) rfl rfl trivial ?_
                refine e3_br (M := tbM298) rfl rfl rfl Iff.rfl (fun hc => ?_) (fun hc => ?_)
                · replace h := h.1 hc
                  refine e3_K [0, 2, 0] 98 [(2, 40), (0, l1)] [(0, (H1 40 124))] (H1) (G2) (wZ L xs) (M := tbM298) rfl rfl ⟨trivial, trivial⟩ ?_
                  refine e3_fgt [false, false] ?_
                  exact sM_told_98 L xs Q _ _ _ h
                · replace h := h.2 hc
                  refine e3_K [0, 2] 98 [(2, 40), (0, l1)] [(0, (H1 40 125))] (H1) (G2) (wZ L xs) (M := tbM298) rfl rfl ⟨trivial, trivial⟩ ?_
                  refine e3_fgt [false, false] ?_
                  exact sM_told_98 L xs Q _ _ _ h
/-- LetterPostModel.guard(I)I -/
def wM_guard_41 (Q : Int → e3_H → e3_G → Prop) (s0 : Int) (H : e3_H) (G : e3_G) : Prop :=
  Q s0 H G
def wM_guard_21 (Q : Int → e3_H → e3_G → Prop) (l1 : Int) (s0 : Int) (s1 : Int) (s2 : Int) (H : e3_H) (G : e3_G) : Prop :=
  (wM_in (fun x3 H1 G2 => (((x3 : Int) = 0 → (wM_guard_41 Q (-4) H1 G2)) ∧ (¬ ((x3 : Int) = 0) → ((0 : Int) ≤ l1 ∧ (l1 : Int) < 32) ∧ (wM_guard_41 Q (H1 137 l1) H1 G2)))) s2 s1 (e3_w32 (s0 - 1)) H G)
def wM_guard (Q : Int → e3_H → e3_G → Prop) (l1 : Int) (H : e3_H) (G : e3_G) : Prop :=
  ((((H 40 123) : Int) < 32 → (wM_guard_21 Q l1 (H 40 123) 0 l1 H G)) ∧ (¬ (((H 40 123) : Int) < 32) → (wM_guard_21 Q l1 32 0 l1 H G)))
set_option maxRecDepth 100000 in
set_option maxHeartbeats 4000000 in
theorem sM_guard_41 (L : Nat) (xs : Nat → Int32) (Q : Int → e3_H → e3_G → Prop) (s0 : Int) (H : e3_H) (G : e3_G) (h : wM_guard_41 Q s0 H G) : e3_Ev (wB L xs) 1 25 299 41 [(3, 0), (3, 0)] [(0, s0)] H G (e3_q0 Q) := by
  unfold wM_guard_41 at h
  exact e3_reti (M := tbM299) rfl rfl rfl ⟨_, rfl, h⟩
set_option maxRecDepth 100000 in
set_option maxHeartbeats 4000000 in
theorem sM_guard_21 (L : Nat) (xs : Nat → Int32) (Q : Int → e3_H → e3_G → Prop) (l1 : Int) (s0 : Int) (s1 : Int) (s2 : Int) (H : e3_H) (G : e3_G) (h : wM_guard_21 Q l1 s0 s1 s2 H G) : e3_Ev (wB L xs) 1 25 299 21 [(2, 40), (0, l1)] [(0, s0), (1, s1), (1, s2)] H G (e3_q0 Q) := by
  unfold wM_guard_21 at h
  refine e3_K [0, 0, 0] 24 [(2, 40), (0, l1)] [(1, (e3_w32 (s0 - 1))), (1, s1), (1, s2)] (H) (G) (wZ L xs) (M := tbM299) rfl rfl trivial ?_
  refine e3_call (o := 0) (k := 198) (M2 := tbM198) (f1 := 0) (w1 := 0) (as := [(1, s2), (1, s1), (1, (e3_w32 (s0 - 1)))]) (rest := []) (M := tbM299) rfl rfl rfl trivial (Nat.le_of_ble_eq_true rfl) (Nat.le_of_ble_eq_true rfl) (Nat.le_of_ble_eq_true rfl) ?_
  refine e3_mono (sM_in L xs _ _ _ _ _ _ h) (fun r H1 G2 h => ?_)
  obtain ⟨x3, rfl, h⟩ := h
  change e3_Ev _ _ _ _ 27 [(2, 40), (0, l1)] [(0, x3)] H1 G2 _
  refine e3_br (M := tbM299) rfl rfl rfl Iff.rfl (fun hc => ?_) (fun hc => ?_)
  · replace h := h.1 hc
    refine e3_K [0] 41 [(2, 40), (0, l1)] [(0, (-4))] (H1) (G2) (wZ L xs) (M := tbM299) rfl rfl trivial ?_
    refine e3_fgt [false, false] ?_
    exact sM_guard_41 L xs Q _ _ _ h
  · replace h := h.2 hc
    obtain ⟨o4, h⟩ := h
    refine e3_K [0, 4, 0, 2, 0] 41 [(2, 40), (0, l1)] [(0, (H1 137 l1))] (H1) (G2) (wZ L xs) (M := tbM299) rfl rfl ⟨trivial, o4, trivial⟩ ?_
    refine e3_fgt [false, false] ?_
    exact sM_guard_41 L xs Q _ _ _ h
set_option maxRecDepth 100000 in
set_option maxHeartbeats 4000000 in
theorem sM_guard (L : Nat) (xs : Nat → Int32) (Q : Int → e3_H → e3_G → Prop) (l1 : Int) (H : e3_H) (G : e3_G) (h : wM_guard Q l1 H G) : e3_Ev (wB L xs) 1 25 299 0 [(2, 40), (0, l1)] [] H G (e3_q0 Q) := by
  unfold wM_guard at h
  refine e3_K [0, 0, 0, 0, 2, 0] 9 [(2, 40), (0, l1)] [(0, 32), (0, (H 40 123)), (1, 0), (1, l1)] (H) (G) (wZ L xs) (M := tbM299) rfl rfl ⟨trivial, trivial⟩ ?_
  refine e3_br (M := tbM299) rfl rfl rfl Iff.rfl (fun hc => ?_) (fun hc => ?_)
  · replace h := h.1 hc
    refine e3_K [0, 2, 0] 21 [(2, 40), (0, l1)] [(0, (H 40 123)), (1, 0), (1, l1)] (H) (G) (wZ L xs) (M := tbM299) rfl rfl ⟨trivial, trivial⟩ ?_
    exact sM_guard_21 L xs Q _ _ _ _ _ _ h
  · replace h := h.2 hc
    refine e3_K [0] 21 [(2, 40), (0, l1)] [(0, 32), (1, 0), (1, l1)] (H) (G) (wZ L xs) (M := tbM299) rfl rfl trivial ?_
    exact sM_guard_21 L xs Q _ _ _ _ _ _ h
/-- LetterPostModel.bound(I)I -/
def wM_bound_27 (Q : Int → e3_H → e3_G → Prop) (s0 : Int) (H : e3_H) (G : e3_G) : Prop :=
  Q s0 H G
def wM_bound (Q : Int → e3_H → e3_G → Prop) (l1 : Int) (H : e3_H) (G : e3_G) : Prop :=
  (wM_in (fun x3 H1 G2 => (((x3 : Int) = 0 → (wM_bound_27 Q (-4) H1 G2)) ∧ (¬ ((x3 : Int) = 0) → ((0 : Int) ≤ l1 ∧ (l1 : Int) < 8) ∧ (wM_bound_27 Q (H1 138 l1) H1 G2)))) l1 0 (e3_w32 ((H 40 128) - 1)) H G)
set_option maxRecDepth 100000 in
set_option maxHeartbeats 4000000 in
theorem sM_bound_27 (L : Nat) (xs : Nat → Int32) (Q : Int → e3_H → e3_G → Prop) (s0 : Int) (H : e3_H) (G : e3_G) (h : wM_bound_27 Q s0 H G) : e3_Ev (wB L xs) 1 25 300 27 [(3, 0), (3, 0)] [(0, s0)] H G (e3_q0 Q) := by
  unfold wM_bound_27 at h
  exact e3_reti (M := tbM300) rfl rfl rfl ⟨_, rfl, h⟩
set_option maxRecDepth 100000 in
set_option maxHeartbeats 4000000 in
theorem sM_bound (L : Nat) (xs : Nat → Int32) (Q : Int → e3_H → e3_G → Prop) (l1 : Int) (H : e3_H) (G : e3_G) (h : wM_bound Q l1 H G) : e3_Ev (wB L xs) 1 25 300 0 [(2, 40), (0, l1)] [] H G (e3_q0 Q) := by
  unfold wM_bound at h
  refine e3_K [0, 0, 0, 0, 2, 0, 0, 0] 10 [(2, 40), (0, l1)] [(1, (e3_w32 ((H 40 128) - 1))), (1, 0), (1, l1)] (H) (G) (wZ L xs) (M := tbM300) rfl rfl ⟨trivial, trivial⟩ ?_
  refine e3_call (o := 0) (k := 198) (M2 := tbM198) (f1 := 0) (w1 := 0) (as := [(1, l1), (1, 0), (1, (e3_w32 ((H 40 128) - 1)))]) (rest := []) (M := tbM300) rfl rfl rfl trivial (Nat.le_of_ble_eq_true rfl) (Nat.le_of_ble_eq_true rfl) (Nat.le_of_ble_eq_true rfl) ?_
  refine e3_mono (sM_in L xs _ _ _ _ _ _ h) (fun r H1 G2 h => ?_)
  obtain ⟨x3, rfl, h⟩ := h
  change e3_Ev _ _ _ _ 13 [(2, 40), (0, l1)] [(0, x3)] H1 G2 _
  refine e3_br (M := tbM300) rfl rfl rfl Iff.rfl (fun hc => ?_) (fun hc => ?_)
  · replace h := h.1 hc
    refine e3_K [0] 27 [(2, 40), (0, l1)] [(0, (-4))] (H1) (G2) (wZ L xs) (M := tbM300) rfl rfl trivial ?_
    refine e3_fgt [false, false] ?_
    exact sM_bound_27 L xs Q _ _ _ h
  · replace h := h.2 hc
    obtain ⟨o4, h⟩ := h
    refine e3_K [0, 4, 0, 2, 0] 27 [(2, 40), (0, l1)] [(0, (H1 138 l1))] (H1) (G2) (wZ L xs) (M := tbM300) rfl rfl ⟨trivial, o4, trivial⟩ ?_
    refine e3_fgt [false, false] ?_
    exact sM_bound_27 L xs Q _ _ _ h
/-- LetterPostModel.count(I)I -/
def wM_count_60 (Q : Int → e3_H → e3_G → Prop) (s0 : Int) (H : e3_H) (G : e3_G) : Prop :=
  Q s0 H G
def wM_count (Q : Int → e3_H → e3_G → Prop) (l1 : Int) (H : e3_H) (G : e3_G) : Prop :=
  (((l1 : Int) = 0 → (wM_count_60 Q (H 40 10) H G)) ∧ (¬ ((l1 : Int) = 0) → (((l1 : Int) = 1 → (wM_count_60 Q (H 40 41) H G)) ∧ (¬ ((l1 : Int) = 1) → (((l1 : Int) = 2 → (wM_count_60 Q (H 40 109) H G)) ∧ (¬ ((l1 : Int) = 2) → (((l1 : Int) = 3 → (wM_count_60 Q (H 40 1) H G)) ∧ (¬ ((l1 : Int) = 3) → (((l1 : Int) = 4 → (wM_count_60 Q (H 40 11) H G)) ∧ (¬ ((l1 : Int) = 4) → (wM_count_60 Q (-1) H G)))))))))))
set_option maxRecDepth 100000 in
set_option maxHeartbeats 4000000 in
theorem sM_count_60 (L : Nat) (xs : Nat → Int32) (Q : Int → e3_H → e3_G → Prop) (s0 : Int) (H : e3_H) (G : e3_G) (h : wM_count_60 Q s0 H G) : e3_Ev (wB L xs) 0 0 301 60 [(3, 0), (3, 0)] [(0, s0)] H G (e3_q0 Q) := by
  unfold wM_count_60 at h
  exact e3_reti (M := tbM301) rfl rfl rfl ⟨_, rfl, h⟩
set_option maxRecDepth 100000 in
set_option maxHeartbeats 4000000 in
theorem sM_count (L : Nat) (xs : Nat → Int32) (Q : Int → e3_H → e3_G → Prop) (l1 : Int) (H : e3_H) (G : e3_G) (h : wM_count Q l1 H G) : e3_Ev (wB L xs) 0 0 301 0 [(2, 40), (0, l1)] [] H G (e3_q0 Q) := by
  unfold wM_count at h
  refine e3_K [0] 1 [(2, 40), (0, l1)] [(0, l1)] (H) (G) (wZ L xs) (M := tbM301) rfl rfl trivial ?_
  refine e3_br (M := tbM301) rfl rfl rfl Iff.rfl (fun hc => ?_) (fun hc => ?_)
  · replace h := h.1 hc
    refine e3_K [0, 2, 0] 60 [(2, 40), (0, l1)] [(0, (H 40 10))] (H) (G) (wZ L xs) (M := tbM301) rfl rfl ⟨trivial, trivial⟩ ?_
    refine e3_fgt [false, false] ?_
    exact sM_count_60 L xs Q _ _ _ h
  · replace h := h.2 hc
    refine e3_K [0, 0] 13 [(2, 40), (0, l1)] [(0, 1), (0, l1)] (H) (G) (wZ L xs) (M := tbM301) rfl rfl trivial ?_
    refine e3_br (M := tbM301) rfl rfl rfl Iff.rfl (fun hc => ?_) (fun hc => ?_)
    · replace h := h.1 hc
      refine e3_K [0, 2, 0] 60 [(2, 40), (0, l1)] [(0, (H 40 41))] (H) (G) (wZ L xs) (M := tbM301) rfl rfl ⟨trivial, trivial⟩ ?_
      refine e3_fgt [false, false] ?_
      exact sM_count_60 L xs Q _ _ _ h
    · replace h := h.2 hc
      refine e3_K [0, 0] 25 [(2, 40), (0, l1)] [(0, 2), (0, l1)] (H) (G) (wZ L xs) (M := tbM301) rfl rfl trivial ?_
      refine e3_br (M := tbM301) rfl rfl rfl Iff.rfl (fun hc => ?_) (fun hc => ?_)
      · replace h := h.1 hc
        refine e3_K [0, 2, 0] 60 [(2, 40), (0, l1)] [(0, (H 40 109))] (H) (G) (wZ L xs) (M := tbM301) rfl rfl ⟨trivial, trivial⟩ ?_
        refine e3_fgt [false, false] ?_
        exact sM_count_60 L xs Q _ _ _ h
      · replace h := h.2 hc
        refine e3_K [0, 0] 37 [(2, 40), (0, l1)] [(0, 3), (0, l1)] (H) (G) (wZ L xs) (M := tbM301) rfl rfl trivial ?_
        refine e3_br (M := tbM301) rfl rfl rfl Iff.rfl (fun hc => ?_) (fun hc => ?_)
        · replace h := h.1 hc
          refine e3_K [0, 2, 0] 60 [(2, 40), (0, l1)] [(0, (H 40 1))] (H) (G) (wZ L xs) (M := tbM301) rfl rfl ⟨trivial, trivial⟩ ?_
          refine e3_fgt [false, false] ?_
          exact sM_count_60 L xs Q _ _ _ h
        · replace h := h.2 hc
          refine e3_K [0, 0] 49 [(2, 40), (0, l1)] [(0, 4), (0, l1)] (H) (G) (wZ L xs) (M := tbM301) rfl rfl trivial ?_
          refine e3_br (M := tbM301) rfl rfl rfl Iff.rfl (fun hc => ?_) (fun hc => ?_)
          · replace h := h.1 hc
            refine e3_K [0, 2, 0] 60 [(2, 40), (0, l1)] [(0, (H 40 11))] (H) (G) (wZ L xs) (M := tbM301) rfl rfl ⟨trivial, trivial⟩ ?_
            refine e3_fgt [false, false] ?_
            exact sM_count_60 L xs Q _ _ _ h
          · replace h := h.2 hc
            refine e3_K [0] 60 [(2, 40), (0, l1)] [(0, (-1))] (H) (G) (wZ L xs) (M := tbM301) rfl rfl trivial ?_
            refine e3_fgt [false, false] ?_
            exact sM_count_60 L xs Q _ _ _ h
/-- LetterPostLaw.law([I)Z -/
def wLaw_law_983 (L : Nat) (Q : Int → e3_H → e3_G → Prop) (k18 : Int → e3_H → e3_G → Prop) (l3 : Int) (H : e3_H) (G : e3_G) : Prop :=
  (k18 (e3_w32 (l3 + 6)) H G)
def wLaw_law_18 (L : Nat) (Q : Int → e3_H → e3_G → Prop) : Nat → Int → e3_H → e3_G → Prop
  | 0, _, _, _ => False
  | nn + 1, l3, H, G => ((L : Int) ≤ 2147483647) ∧ ((((e3_w32 ((L : Int) - 6)) : Int) < l3 → Q 1 H G) ∧ (¬ (((e3_w32 ((L : Int) - 6)) : Int) < l3) → ((0 : Int) ≤ l3 ∧ (l3 : Int) < (L : Int)) ∧ ((((e3_and (H 0 l3) 31) : Int) = 0 → ((0 : Int) ≤ (e3_w32 (l3 + 1)) ∧ ((e3_w32 (l3 + 1)) : Int) < (L : Int)) ∧ ((0 : Int) ≤ (e3_w32 (l3 + 2)) ∧ ((e3_w32 (l3 + 2)) : Int) < (L : Int)) ∧ ((0 : Int) ≤ (e3_w32 (l3 + 3)) ∧ ((e3_w32 (l3 + 3)) : Int) < (L : Int)) ∧ (wP_feed (fun x8 H6 G7 => ((0 : Int) ≤ (e3_w32 (l3 + 1)) ∧ ((e3_w32 (l3 + 1)) : Int) < (L : Int)) ∧ ((0 : Int) ≤ (e3_w32 (l3 + 2)) ∧ ((e3_w32 (l3 + 2)) : Int) < (L : Int)) ∧ ((0 : Int) ≤ (e3_w32 (l3 + 3)) ∧ ((e3_w32 (l3 + 3)) : Int) < (L : Int)) ∧ (wM_feed (fun x14 H12 G13 => (wLaw_law_983 L Q (fun l3 H G => wLaw_law_18 L Q nn l3 H G) l3 H12 G13)) (e3_lor (e3_lshl (H6 0 (e3_w32 (l3 + 1))) 32) (e3_land (H6 0 (e3_w32 (l3 + 2))) 4294967295)) (H6 0 (e3_w32 (l3 + 3))) H6 G7)) (e3_lor (e3_lshl (H 0 (e3_w32 (l3 + 1))) 32) (e3_land (H 0 (e3_w32 (l3 + 2))) 4294967295)) (H 0 (e3_w32 (l3 + 3))) H G)) ∧ (((e3_and (H 0 l3) 31) : Int) = 1 → (wP_read (fun x17 H15 G16 => (wM_read (fun x20 H18 G19 => (wLaw_law_983 L Q (fun l3 H G => wLaw_law_18 L Q nn l3 H G) l3 H18 G19)) H15 G16)) H G)) ∧ (((e3_and (H 0 l3) 31) : Int) = 2 → (wP_fault (fun x23 H21 G22 => (wM_fault (fun x26 H24 G25 => (wLaw_law_983 L Q (fun l3 H G => wLaw_law_18 L Q nn l3 H G) l3 H24 G25)) H21 G22)) H G)) ∧ (((e3_and (H 0 l3) 31) : Int) = 3 → (wP_add (fun x29 H27 G28 => (wM_add (fun x32 H30 G31 => (wLaw_law_983 L Q (fun l3 H G => wLaw_law_18 L Q nn l3 H G) l3 H30 G31)) H27 G28)) H G)) ∧ (((e3_and (H 0 l3) 31) : Int) = 4 → ((0 : Int) ≤ (e3_w32 (l3 + 1)) ∧ ((e3_w32 (l3 + 1)) : Int) < (L : Int)) ∧ ((0 : Int) ≤ (e3_w32 (l3 + 2)) ∧ ((e3_w32 (l3 + 2)) : Int) < (L : Int)) ∧ (wP_remake (fun x37 H35 G36 => ((0 : Int) ≤ (e3_w32 (l3 + 1)) ∧ ((e3_w32 (l3 + 1)) : Int) < (L : Int)) ∧ ((0 : Int) ≤ (e3_w32 (l3 + 2)) ∧ ((e3_w32 (l3 + 2)) : Int) < (L : Int)) ∧ (wM_remake (fun x42 H40 G41 => (wLaw_law_983 L Q (fun l3 H G => wLaw_law_18 L Q nn l3 H G) l3 H40 G41)) (H35 0 (e3_w32 (l3 + 1))) (H35 0 (e3_w32 (l3 + 2))) H35 G36)) (H 0 (e3_w32 (l3 + 1))) (H 0 (e3_w32 (l3 + 2))) H G)) ∧ (((e3_and (H 0 l3) 31) : Int) = 5 → ((0 : Int) ≤ (e3_w32 (l3 + 1)) ∧ ((e3_w32 (l3 + 1)) : Int) < (L : Int)) ∧ ((0 : Int) ≤ (e3_w32 (l3 + 2)) ∧ ((e3_w32 (l3 + 2)) : Int) < (L : Int)) ∧ (wP_kind (fun x47 H45 G46 => ((0 : Int) ≤ (e3_w32 (l3 + 1)) ∧ ((e3_w32 (l3 + 1)) : Int) < (L : Int)) ∧ ((0 : Int) ≤ (e3_w32 (l3 + 2)) ∧ ((e3_w32 (l3 + 2)) : Int) < (L : Int)) ∧ (wM_kind (fun x52 H50 G51 => (wLaw_law_983 L Q (fun l3 H G => wLaw_law_18 L Q nn l3 H G) l3 H50 G51)) (H45 0 (e3_w32 (l3 + 1))) (H45 0 (e3_w32 (l3 + 2))) H45 G46)) (H 0 (e3_w32 (l3 + 1))) (H 0 (e3_w32 (l3 + 2))) H G)) ∧ (((e3_and (H 0 l3) 31) : Int) = 6 → ((0 : Int) ≤ (e3_w32 (l3 + 1)) ∧ ((e3_w32 (l3 + 1)) : Int) < (L : Int)) ∧ ((0 : Int) ≤ (e3_w32 (l3 + 2)) ∧ ((e3_w32 (l3 + 2)) : Int) < (L : Int)) ∧ (wP_kindNamed (fun x57 H55 G56 => ((0 : Int) ≤ (e3_w32 (l3 + 1)) ∧ ((e3_w32 (l3 + 1)) : Int) < (L : Int)) ∧ ((0 : Int) ≤ (e3_w32 (l3 + 2)) ∧ ((e3_w32 (l3 + 2)) : Int) < (L : Int)) ∧ (wM_kindNamed (fun x62 H60 G61 => (wLaw_law_983 L Q (fun l3 H G => wLaw_law_18 L Q nn l3 H G) l3 H60 G61)) (e3_lor (e3_lshl (H55 0 (e3_w32 (l3 + 1))) 32) (e3_land (H55 0 (e3_w32 (l3 + 2))) 4294967295)) H55 G56)) (e3_lor (e3_lshl (H 0 (e3_w32 (l3 + 1))) 32) (e3_land (H 0 (e3_w32 (l3 + 2))) 4294967295)) H G)) ∧ (((e3_and (H 0 l3) 31) : Int) = 7 → ((0 : Int) ≤ (e3_w32 (l3 + 1)) ∧ ((e3_w32 (l3 + 1)) : Int) < (L : Int)) ∧ ((0 : Int) ≤ (e3_w32 (l3 + 2)) ∧ ((e3_w32 (l3 + 2)) : Int) < (L : Int)) ∧ (wP_function (fun x67 H65 G66 => ((0 : Int) ≤ (e3_w32 (l3 + 1)) ∧ ((e3_w32 (l3 + 1)) : Int) < (L : Int)) ∧ ((0 : Int) ≤ (e3_w32 (l3 + 2)) ∧ ((e3_w32 (l3 + 2)) : Int) < (L : Int)) ∧ (wM_function (fun x72 H70 G71 => (wLaw_law_983 L Q (fun l3 H G => wLaw_law_18 L Q nn l3 H G) l3 H70 G71)) (H65 0 (e3_w32 (l3 + 1))) (H65 0 (e3_w32 (l3 + 2))) H65 G66)) (H 0 (e3_w32 (l3 + 1))) (H 0 (e3_w32 (l3 + 2))) H G)) ∧ (((e3_and (H 0 l3) 31) : Int) = 8 → ((0 : Int) ≤ (e3_w32 (l3 + 1)) ∧ ((e3_w32 (l3 + 1)) : Int) < (L : Int)) ∧ ((0 : Int) ≤ (e3_w32 (l3 + 2)) ∧ ((e3_w32 (l3 + 2)) : Int) < (L : Int)) ∧ ((0 : Int) ≤ (e3_w32 (l3 + 3)) ∧ ((e3_w32 (l3 + 3)) : Int) < (L : Int)) ∧ (wP_node (fun x78 H76 G77 => ((0 : Int) ≤ (e3_w32 (l3 + 1)) ∧ ((e3_w32 (l3 + 1)) : Int) < (L : Int)) ∧ ((0 : Int) ≤ (e3_w32 (l3 + 2)) ∧ ((e3_w32 (l3 + 2)) : Int) < (L : Int)) ∧ ((0 : Int) ≤ (e3_w32 (l3 + 3)) ∧ ((e3_w32 (l3 + 3)) : Int) < (L : Int)) ∧ (wM_node (fun x84 H82 G83 => (wLaw_law_983 L Q (fun l3 H G => wLaw_law_18 L Q nn l3 H G) l3 H82 G83)) (H76 0 (e3_w32 (l3 + 1))) (H76 0 (e3_w32 (l3 + 2))) (H76 0 (e3_w32 (l3 + 3))) H76 G77)) (H 0 (e3_w32 (l3 + 1))) (H 0 (e3_w32 (l3 + 2))) (H 0 (e3_w32 (l3 + 3))) H G)) ∧ (((e3_and (H 0 l3) 31) : Int) = 9 → ((0 : Int) ≤ (e3_w32 (l3 + 1)) ∧ ((e3_w32 (l3 + 1)) : Int) < (L : Int)) ∧ ((0 : Int) ≤ (e3_w32 (l3 + 2)) ∧ ((e3_w32 (l3 + 2)) : Int) < (L : Int)) ∧ ((0 : Int) ≤ (e3_w32 (l3 + 3)) ∧ ((e3_w32 (l3 + 3)) : Int) < (L : Int)) ∧ (wP_branch (fun x90 H88 G89 => ((0 : Int) ≤ (e3_w32 (l3 + 1)) ∧ ((e3_w32 (l3 + 1)) : Int) < (L : Int)) ∧ ((0 : Int) ≤ (e3_w32 (l3 + 2)) ∧ ((e3_w32 (l3 + 2)) : Int) < (L : Int)) ∧ ((0 : Int) ≤ (e3_w32 (l3 + 3)) ∧ ((e3_w32 (l3 + 3)) : Int) < (L : Int)) ∧ (wM_branch (fun x96 H94 G95 => (wLaw_law_983 L Q (fun l3 H G => wLaw_law_18 L Q nn l3 H G) l3 H94 G95)) (H88 0 (e3_w32 (l3 + 1))) (H88 0 (e3_w32 (l3 + 2))) (H88 0 (e3_w32 (l3 + 3))) H88 G89)) (H 0 (e3_w32 (l3 + 1))) (H 0 (e3_w32 (l3 + 2))) (H 0 (e3_w32 (l3 + 3))) H G)) ∧ (((e3_and (H 0 l3) 31) : Int) = 10 → ((0 : Int) ≤ (e3_w32 (l3 + 1)) ∧ ((e3_w32 (l3 + 1)) : Int) < (L : Int)) ∧ (wP_missing (fun x100 H98 G99 => ((0 : Int) ≤ (e3_w32 (l3 + 1)) ∧ ((e3_w32 (l3 + 1)) : Int) < (L : Int)) ∧ (wM_missing (fun x104 H102 G103 => (wLaw_law_983 L Q (fun l3 H G => wLaw_law_18 L Q nn l3 H G) l3 H102 G103)) (H98 0 (e3_w32 (l3 + 1))) H98 G99)) (H 0 (e3_w32 (l3 + 1))) H G)) ∧ (((e3_and (H 0 l3) 31) : Int) = 11 → ((0 : Int) ≤ (e3_w32 (l3 + 1)) ∧ ((e3_w32 (l3 + 1)) : Int) < (L : Int)) ∧ ((0 : Int) ≤ (e3_w32 (l3 + 2)) ∧ ((e3_w32 (l3 + 2)) : Int) < (L : Int)) ∧ (wP_unreached (fun x109 H107 G108 => ((0 : Int) ≤ (e3_w32 (l3 + 1)) ∧ ((e3_w32 (l3 + 1)) : Int) < (L : Int)) ∧ ((0 : Int) ≤ (e3_w32 (l3 + 2)) ∧ ((e3_w32 (l3 + 2)) : Int) < (L : Int)) ∧ (wM_unreached (fun x114 H112 G113 => (wLaw_law_983 L Q (fun l3 H G => wLaw_law_18 L Q nn l3 H G) l3 H112 G113)) (H107 0 (e3_w32 (l3 + 1))) (H107 0 (e3_w32 (l3 + 2))) H107 G108)) (H 0 (e3_w32 (l3 + 1))) (H 0 (e3_w32 (l3 + 2))) H G)) ∧ (((e3_and (H 0 l3) 31) : Int) = 12 → ((0 : Int) ≤ (e3_w32 (l3 + 1)) ∧ ((e3_w32 (l3 + 1)) : Int) < (L : Int)) ∧ (wP_whole (fun x118 H116 G117 => ((0 : Int) ≤ (e3_w32 (l3 + 1)) ∧ ((e3_w32 (l3 + 1)) : Int) < (L : Int)) ∧ (wM_whole (fun x122 H120 G121 => (wLaw_law_983 L Q (fun l3 H G => wLaw_law_18 L Q nn l3 H G) l3 H120 G121)) (H116 0 (e3_w32 (l3 + 1))) H116 G117)) (H 0 (e3_w32 (l3 + 1))) H G)) ∧ (((e3_and (H 0 l3) 31) : Int) = 13 → ((0 : Int) ≤ (e3_w32 (l3 + 1)) ∧ ((e3_w32 (l3 + 1)) : Int) < (L : Int)) ∧ (wP_truth (fun x126 H124 G125 => ((0 : Int) ≤ (e3_w32 (l3 + 1)) ∧ ((e3_w32 (l3 + 1)) : Int) < (L : Int)) ∧ (wM_truth (fun x130 H128 G129 => (wLaw_law_983 L Q (fun l3 H G => wLaw_law_18 L Q nn l3 H G) l3 H128 G129)) (H124 0 (e3_w32 (l3 + 1))) H124 G125)) (H 0 (e3_w32 (l3 + 1))) H G)) ∧ (((e3_and (H 0 l3) 31) : Int) = 14 → ((0 : Int) ≤ (e3_w32 (l3 + 1)) ∧ ((e3_w32 (l3 + 1)) : Int) < (L : Int)) ∧ ((0 : Int) ≤ (e3_w32 (l3 + 2)) ∧ ((e3_w32 (l3 + 2)) : Int) < (L : Int)) ∧ (wP_letters (fun x135 H133 G134 => ((0 : Int) ≤ (e3_w32 (l3 + 1)) ∧ ((e3_w32 (l3 + 1)) : Int) < (L : Int)) ∧ ((0 : Int) ≤ (e3_w32 (l3 + 2)) ∧ ((e3_w32 (l3 + 2)) : Int) < (L : Int)) ∧ (wM_letters (fun x140 H138 G139 => (wLaw_law_983 L Q (fun l3 H G => wLaw_law_18 L Q nn l3 H G) l3 H138 G139)) (e3_lor (e3_lshl (H133 0 (e3_w32 (l3 + 1))) 32) (e3_land (H133 0 (e3_w32 (l3 + 2))) 4294967295)) H133 G134)) (e3_lor (e3_lshl (H 0 (e3_w32 (l3 + 1))) 32) (e3_land (H 0 (e3_w32 (l3 + 2))) 4294967295)) H G)) ∧ (((e3_and (H 0 l3) 31) : Int) = 15 → (wP_nothing (fun x143 H141 G142 => (wM_nothing (fun x146 H144 G145 => (wLaw_law_983 L Q (fun l3 H G => wLaw_law_18 L Q nn l3 H G) l3 H144 G145)) H141 G142)) H G)) ∧ (((e3_and (H 0 l3) 31) : Int) = 16 → ((0 : Int) ≤ (e3_w32 (l3 + 1)) ∧ ((e3_w32 (l3 + 1)) : Int) < (L : Int)) ∧ ((0 : Int) ≤ (e3_w32 (l3 + 2)) ∧ ((e3_w32 (l3 + 2)) : Int) < (L : Int)) ∧ ((0 : Int) ≤ (e3_w32 (l3 + 3)) ∧ ((e3_w32 (l3 + 3)) : Int) < (L : Int)) ∧ ((0 : Int) ≤ (e3_w32 (l3 + 4)) ∧ ((e3_w32 (l3 + 4)) : Int) < (L : Int)) ∧ ((0 : Int) ≤ (e3_w32 (l3 + 5)) ∧ ((e3_w32 (l3 + 5)) : Int) < (L : Int)) ∧ (wP_make (fun x154 H152 G153 => ((0 : Int) ≤ (e3_w32 (l3 + 1)) ∧ ((e3_w32 (l3 + 1)) : Int) < (L : Int)) ∧ ((0 : Int) ≤ (e3_w32 (l3 + 2)) ∧ ((e3_w32 (l3 + 2)) : Int) < (L : Int)) ∧ ((0 : Int) ≤ (e3_w32 (l3 + 3)) ∧ ((e3_w32 (l3 + 3)) : Int) < (L : Int)) ∧ ((0 : Int) ≤ (e3_w32 (l3 + 4)) ∧ ((e3_w32 (l3 + 4)) : Int) < (L : Int)) ∧ ((0 : Int) ≤ (e3_w32 (l3 + 5)) ∧ ((e3_w32 (l3 + 5)) : Int) < (L : Int)) ∧ (wM_make (fun x162 H160 G161 => (wLaw_law_983 L Q (fun l3 H G => wLaw_law_18 L Q nn l3 H G) l3 H160 G161)) (H152 0 (e3_w32 (l3 + 1))) (H152 0 (e3_w32 (l3 + 2))) (H152 0 (e3_w32 (l3 + 3))) (H152 0 (e3_w32 (l3 + 4))) (H152 0 (e3_w32 (l3 + 5))) H152 G153)) (H 0 (e3_w32 (l3 + 1))) (H 0 (e3_w32 (l3 + 2))) (H 0 (e3_w32 (l3 + 3))) (H 0 (e3_w32 (l3 + 4))) (H 0 (e3_w32 (l3 + 5))) H G)) ∧ (((e3_and (H 0 l3) 31) : Int) = 17 → ((0 : Int) ≤ (e3_w32 (l3 + 1)) ∧ ((e3_w32 (l3 + 1)) : Int) < (L : Int)) ∧ ((0 : Int) ≤ (e3_w32 (l3 + 2)) ∧ ((e3_w32 (l3 + 2)) : Int) < (L : Int)) ∧ (wP_value (fun x167 H165 G166 => ((0 : Int) ≤ (e3_w32 (l3 + 1)) ∧ ((e3_w32 (l3 + 1)) : Int) < (L : Int)) ∧ ((0 : Int) ≤ (e3_w32 (l3 + 2)) ∧ ((e3_w32 (l3 + 2)) : Int) < (L : Int)) ∧ (wM_value (fun x172 H170 G171 => (wLaw_law_983 L Q (fun l3 H G => wLaw_law_18 L Q nn l3 H G) l3 H170 G171)) (H165 0 (e3_w32 (l3 + 1))) (H165 0 (e3_w32 (l3 + 2))) H165 G166)) (H 0 (e3_w32 (l3 + 1))) (H 0 (e3_w32 (l3 + 2))) H G)) ∧ (((e3_and (H 0 l3) 31) : Int) = 18 → ((0 : Int) ≤ (e3_w32 (l3 + 1)) ∧ ((e3_w32 (l3 + 1)) : Int) < (L : Int)) ∧ ((0 : Int) ≤ (e3_w32 (l3 + 2)) ∧ ((e3_w32 (l3 + 2)) : Int) < (L : Int)) ∧ (wP_alike (fun x177 H175 G176 => ((0 : Int) ≤ (e3_w32 (l3 + 1)) ∧ ((e3_w32 (l3 + 1)) : Int) < (L : Int)) ∧ ((0 : Int) ≤ (e3_w32 (l3 + 2)) ∧ ((e3_w32 (l3 + 2)) : Int) < (L : Int)) ∧ (wM_alike (fun x182 H180 G181 => (wLaw_law_983 L Q (fun l3 H G => wLaw_law_18 L Q nn l3 H G) l3 H180 G181)) (H175 0 (e3_w32 (l3 + 1))) (H175 0 (e3_w32 (l3 + 2))) H175 G176)) (H 0 (e3_w32 (l3 + 1))) (H 0 (e3_w32 (l3 + 2))) H G)) ∧ (((e3_and (H 0 l3) 31) : Int) = 19 → ((0 : Int) ≤ (e3_w32 (l3 + 1)) ∧ ((e3_w32 (l3 + 1)) : Int) < (L : Int)) ∧ ((0 : Int) ≤ (e3_w32 (l3 + 2)) ∧ ((e3_w32 (l3 + 2)) : Int) < (L : Int)) ∧ ((0 : Int) ≤ (e3_w32 (l3 + 3)) ∧ ((e3_w32 (l3 + 3)) : Int) < (L : Int)) ∧ ((0 : Int) ≤ (e3_w32 (l3 + 4)) ∧ ((e3_w32 (l3 + 4)) : Int) < (L : Int)) ∧ (wP_sort (fun x189 H187 G188 => ((0 : Int) ≤ (e3_w32 (l3 + 1)) ∧ ((e3_w32 (l3 + 1)) : Int) < (L : Int)) ∧ ((0 : Int) ≤ (e3_w32 (l3 + 2)) ∧ ((e3_w32 (l3 + 2)) : Int) < (L : Int)) ∧ ((0 : Int) ≤ (e3_w32 (l3 + 3)) ∧ ((e3_w32 (l3 + 3)) : Int) < (L : Int)) ∧ ((0 : Int) ≤ (e3_w32 (l3 + 4)) ∧ ((e3_w32 (l3 + 4)) : Int) < (L : Int)) ∧ (wM_sort (fun x196 H194 G195 => (wLaw_law_983 L Q (fun l3 H G => wLaw_law_18 L Q nn l3 H G) l3 H194 G195)) (H187 0 (e3_w32 (l3 + 1))) (H187 0 (e3_w32 (l3 + 2))) (H187 0 (e3_w32 (l3 + 3))) (H187 0 (e3_w32 (l3 + 4))) H187 G188)) (H 0 (e3_w32 (l3 + 1))) (H 0 (e3_w32 (l3 + 2))) (H 0 (e3_w32 (l3 + 3))) (H 0 (e3_w32 (l3 + 4))) H G)) ∧ (((e3_and (H 0 l3) 31) : Int) = 20 → ((0 : Int) ≤ (e3_w32 (l3 + 1)) ∧ ((e3_w32 (l3 + 1)) : Int) < (L : Int)) ∧ ((0 : Int) ≤ (e3_w32 (l3 + 2)) ∧ ((e3_w32 (l3 + 2)) : Int) < (L : Int)) ∧ ((0 : Int) ≤ (e3_w32 (l3 + 3)) ∧ ((e3_w32 (l3 + 3)) : Int) < (L : Int)) ∧ ((0 : Int) ≤ (e3_w32 (l3 + 4)) ∧ ((e3_w32 (l3 + 4)) : Int) < (L : Int)) ∧ (wP_plain (fun x203 H201 G202 => ((0 : Int) ≤ (e3_w32 (l3 + 1)) ∧ ((e3_w32 (l3 + 1)) : Int) < (L : Int)) ∧ ((0 : Int) ≤ (e3_w32 (l3 + 2)) ∧ ((e3_w32 (l3 + 2)) : Int) < (L : Int)) ∧ ((0 : Int) ≤ (e3_w32 (l3 + 3)) ∧ ((e3_w32 (l3 + 3)) : Int) < (L : Int)) ∧ ((0 : Int) ≤ (e3_w32 (l3 + 4)) ∧ ((e3_w32 (l3 + 4)) : Int) < (L : Int)) ∧ (wM_plain (fun x210 H208 G209 => (wLaw_law_983 L Q (fun l3 H G => wLaw_law_18 L Q nn l3 H G) l3 H208 G209)) (H201 0 (e3_w32 (l3 + 1))) (H201 0 (e3_w32 (l3 + 2))) (H201 0 (e3_w32 (l3 + 3))) (H201 0 (e3_w32 (l3 + 4))) H201 G202)) (H 0 (e3_w32 (l3 + 1))) (H 0 (e3_w32 (l3 + 2))) (H 0 (e3_w32 (l3 + 3))) (H 0 (e3_w32 (l3 + 4))) H G)) ∧ (((e3_and (H 0 l3) 31) : Int) = 21 → ((0 : Int) ≤ (e3_w32 (l3 + 1)) ∧ ((e3_w32 (l3 + 1)) : Int) < (L : Int)) ∧ (wP_told (fun x214 H212 G213 => ((0 : Int) ≤ (e3_w32 (l3 + 1)) ∧ ((e3_w32 (l3 + 1)) : Int) < (L : Int)) ∧ (wM_told (fun x218 H216 G217 => (wLaw_law_983 L Q (fun l3 H G => wLaw_law_18 L Q nn l3 H G) l3 H216 G217)) (H212 0 (e3_w32 (l3 + 1))) H212 G213)) (H 0 (e3_w32 (l3 + 1))) H G)) ∧ (((e3_and (H 0 l3) 31) : Int) = 22 → ((0 : Int) ≤ (e3_w32 (l3 + 1)) ∧ ((e3_w32 (l3 + 1)) : Int) < (L : Int)) ∧ (wP_guard (fun x222 H220 G221 => ((0 : Int) ≤ (e3_w32 (l3 + 1)) ∧ ((e3_w32 (l3 + 1)) : Int) < (L : Int)) ∧ (wM_guard (fun x226 H224 G225 => (wLaw_law_983 L Q (fun l3 H G => wLaw_law_18 L Q nn l3 H G) l3 H224 G225)) (H220 0 (e3_w32 (l3 + 1))) H220 G221)) (H 0 (e3_w32 (l3 + 1))) H G)) ∧ (((e3_and (H 0 l3) 31) : Int) = 23 → ((0 : Int) ≤ (e3_w32 (l3 + 1)) ∧ ((e3_w32 (l3 + 1)) : Int) < (L : Int)) ∧ (wP_bound (fun x230 H228 G229 => ((0 : Int) ≤ (e3_w32 (l3 + 1)) ∧ ((e3_w32 (l3 + 1)) : Int) < (L : Int)) ∧ (wM_bound (fun x234 H232 G233 => (wLaw_law_983 L Q (fun l3 H G => wLaw_law_18 L Q nn l3 H G) l3 H232 G233)) (H228 0 (e3_w32 (l3 + 1))) H228 G229)) (H 0 (e3_w32 (l3 + 1))) H G)) ∧ (((e3_and (H 0 l3) 31) : Int) = 24 → ((0 : Int) ≤ (e3_w32 (l3 + 1)) ∧ ((e3_w32 (l3 + 1)) : Int) < (L : Int)) ∧ (wP_count (fun x238 H236 G237 => ((0 : Int) ≤ (e3_w32 (l3 + 1)) ∧ ((e3_w32 (l3 + 1)) : Int) < (L : Int)) ∧ (wM_count (fun x242 H240 G241 => (((x238 : Int) = x242 → (wLaw_law_983 L Q (fun l3 H G => wLaw_law_18 L Q nn l3 H G) l3 H240 G241)) ∧ (¬ ((x238 : Int) = x242) → Q 0 H240 G241))) (H236 0 (e3_w32 (l3 + 1))) H236 G237)) (H 0 (e3_w32 (l3 + 1))) H G)) ∧ (((e3_and (H 0 l3) 31) : Int) < 0 ∨ 24 < (e3_and (H 0 l3) 31) → (wLaw_law_983 L Q (fun l3 H G => wLaw_law_18 L Q nn l3 H G) l3 H G)))))
set_option maxRecDepth 100000 in
set_option maxHeartbeats 4000000 in
theorem sLaw_law_983 (L : Nat) (xs : Nat → Int32) (Q : Int → e3_H → e3_G → Prop) (k18 : Int → e3_H → e3_G → Prop) (hk18 : ∀ (l3 : Int) (H : e3_H) (G : e3_G), k18 l3 H G → e3_Ev (wB L xs) 378 10190 0 18 [(2, 0), (2, 2), (2, 40), (0, l3)] [] H G (e3_q0 Q)) (l3 : Int) (H : e3_H) (G : e3_G) (h : wLaw_law_983 L Q k18 l3 H G) : e3_Ev (wB L xs) 378 10190 0 983 [(2, 0), (2, 2), (2, 40), (0, l3)] [] H G (e3_q0 Q) := by
  unfold wLaw_law_983 at h
  refine e3_K [0, 0] 18 [(2, 0), (2, 2), (2, 40), (0, (e3_w32 (l3 + 6)))] [] (H) (G) (wZ L xs) (M := tbM0) rfl rfl trivial ?_
  exact hk18 _ _ _ h
set_option maxRecDepth 100000 in
set_option maxHeartbeats 4000000 in
theorem sLaw_law_18 (L : Nat) (xs : Nat → Int32) (Q : Int → e3_H → e3_G → Prop) : ∀ (nl : Nat) (l3 : Int) (H : e3_H) (G : e3_G), wLaw_law_18 L Q nl l3 H G → e3_Ev (wB L xs) 378 10190 0 18 [(2, 0), (2, 2), (2, 40), (0, l3)] [] H G (e3_q0 Q) := by
  intro nl
  induction nl with
  | zero => intro l3 H G h; exact h.elim
  | succ nn ih =>
    intro l3 H G h
    have h : ((L : Int) ≤ 2147483647) ∧ ((((e3_w32 ((L : Int) - 6)) : Int) < l3 → Q 1 H G) ∧ (¬ (((e3_w32 ((L : Int) - 6)) : Int) < l3) → ((0 : Int) ≤ l3 ∧ (l3 : Int) < (L : Int)) ∧ ((((e3_and (H 0 l3) 31) : Int) = 0 → ((0 : Int) ≤ (e3_w32 (l3 + 1)) ∧ ((e3_w32 (l3 + 1)) : Int) < (L : Int)) ∧ ((0 : Int) ≤ (e3_w32 (l3 + 2)) ∧ ((e3_w32 (l3 + 2)) : Int) < (L : Int)) ∧ ((0 : Int) ≤ (e3_w32 (l3 + 3)) ∧ ((e3_w32 (l3 + 3)) : Int) < (L : Int)) ∧ (wP_feed (fun x8 H6 G7 => ((0 : Int) ≤ (e3_w32 (l3 + 1)) ∧ ((e3_w32 (l3 + 1)) : Int) < (L : Int)) ∧ ((0 : Int) ≤ (e3_w32 (l3 + 2)) ∧ ((e3_w32 (l3 + 2)) : Int) < (L : Int)) ∧ ((0 : Int) ≤ (e3_w32 (l3 + 3)) ∧ ((e3_w32 (l3 + 3)) : Int) < (L : Int)) ∧ (wM_feed (fun x14 H12 G13 => (wLaw_law_983 L Q (fun l3 H G => wLaw_law_18 L Q nn l3 H G) l3 H12 G13)) (e3_lor (e3_lshl (H6 0 (e3_w32 (l3 + 1))) 32) (e3_land (H6 0 (e3_w32 (l3 + 2))) 4294967295)) (H6 0 (e3_w32 (l3 + 3))) H6 G7)) (e3_lor (e3_lshl (H 0 (e3_w32 (l3 + 1))) 32) (e3_land (H 0 (e3_w32 (l3 + 2))) 4294967295)) (H 0 (e3_w32 (l3 + 3))) H G)) ∧ (((e3_and (H 0 l3) 31) : Int) = 1 → (wP_read (fun x17 H15 G16 => (wM_read (fun x20 H18 G19 => (wLaw_law_983 L Q (fun l3 H G => wLaw_law_18 L Q nn l3 H G) l3 H18 G19)) H15 G16)) H G)) ∧ (((e3_and (H 0 l3) 31) : Int) = 2 → (wP_fault (fun x23 H21 G22 => (wM_fault (fun x26 H24 G25 => (wLaw_law_983 L Q (fun l3 H G => wLaw_law_18 L Q nn l3 H G) l3 H24 G25)) H21 G22)) H G)) ∧ (((e3_and (H 0 l3) 31) : Int) = 3 → (wP_add (fun x29 H27 G28 => (wM_add (fun x32 H30 G31 => (wLaw_law_983 L Q (fun l3 H G => wLaw_law_18 L Q nn l3 H G) l3 H30 G31)) H27 G28)) H G)) ∧ (((e3_and (H 0 l3) 31) : Int) = 4 → ((0 : Int) ≤ (e3_w32 (l3 + 1)) ∧ ((e3_w32 (l3 + 1)) : Int) < (L : Int)) ∧ ((0 : Int) ≤ (e3_w32 (l3 + 2)) ∧ ((e3_w32 (l3 + 2)) : Int) < (L : Int)) ∧ (wP_remake (fun x37 H35 G36 => ((0 : Int) ≤ (e3_w32 (l3 + 1)) ∧ ((e3_w32 (l3 + 1)) : Int) < (L : Int)) ∧ ((0 : Int) ≤ (e3_w32 (l3 + 2)) ∧ ((e3_w32 (l3 + 2)) : Int) < (L : Int)) ∧ (wM_remake (fun x42 H40 G41 => (wLaw_law_983 L Q (fun l3 H G => wLaw_law_18 L Q nn l3 H G) l3 H40 G41)) (H35 0 (e3_w32 (l3 + 1))) (H35 0 (e3_w32 (l3 + 2))) H35 G36)) (H 0 (e3_w32 (l3 + 1))) (H 0 (e3_w32 (l3 + 2))) H G)) ∧ (((e3_and (H 0 l3) 31) : Int) = 5 → ((0 : Int) ≤ (e3_w32 (l3 + 1)) ∧ ((e3_w32 (l3 + 1)) : Int) < (L : Int)) ∧ ((0 : Int) ≤ (e3_w32 (l3 + 2)) ∧ ((e3_w32 (l3 + 2)) : Int) < (L : Int)) ∧ (wP_kind (fun x47 H45 G46 => ((0 : Int) ≤ (e3_w32 (l3 + 1)) ∧ ((e3_w32 (l3 + 1)) : Int) < (L : Int)) ∧ ((0 : Int) ≤ (e3_w32 (l3 + 2)) ∧ ((e3_w32 (l3 + 2)) : Int) < (L : Int)) ∧ (wM_kind (fun x52 H50 G51 => (wLaw_law_983 L Q (fun l3 H G => wLaw_law_18 L Q nn l3 H G) l3 H50 G51)) (H45 0 (e3_w32 (l3 + 1))) (H45 0 (e3_w32 (l3 + 2))) H45 G46)) (H 0 (e3_w32 (l3 + 1))) (H 0 (e3_w32 (l3 + 2))) H G)) ∧ (((e3_and (H 0 l3) 31) : Int) = 6 → ((0 : Int) ≤ (e3_w32 (l3 + 1)) ∧ ((e3_w32 (l3 + 1)) : Int) < (L : Int)) ∧ ((0 : Int) ≤ (e3_w32 (l3 + 2)) ∧ ((e3_w32 (l3 + 2)) : Int) < (L : Int)) ∧ (wP_kindNamed (fun x57 H55 G56 => ((0 : Int) ≤ (e3_w32 (l3 + 1)) ∧ ((e3_w32 (l3 + 1)) : Int) < (L : Int)) ∧ ((0 : Int) ≤ (e3_w32 (l3 + 2)) ∧ ((e3_w32 (l3 + 2)) : Int) < (L : Int)) ∧ (wM_kindNamed (fun x62 H60 G61 => (wLaw_law_983 L Q (fun l3 H G => wLaw_law_18 L Q nn l3 H G) l3 H60 G61)) (e3_lor (e3_lshl (H55 0 (e3_w32 (l3 + 1))) 32) (e3_land (H55 0 (e3_w32 (l3 + 2))) 4294967295)) H55 G56)) (e3_lor (e3_lshl (H 0 (e3_w32 (l3 + 1))) 32) (e3_land (H 0 (e3_w32 (l3 + 2))) 4294967295)) H G)) ∧ (((e3_and (H 0 l3) 31) : Int) = 7 → ((0 : Int) ≤ (e3_w32 (l3 + 1)) ∧ ((e3_w32 (l3 + 1)) : Int) < (L : Int)) ∧ ((0 : Int) ≤ (e3_w32 (l3 + 2)) ∧ ((e3_w32 (l3 + 2)) : Int) < (L : Int)) ∧ (wP_function (fun x67 H65 G66 => ((0 : Int) ≤ (e3_w32 (l3 + 1)) ∧ ((e3_w32 (l3 + 1)) : Int) < (L : Int)) ∧ ((0 : Int) ≤ (e3_w32 (l3 + 2)) ∧ ((e3_w32 (l3 + 2)) : Int) < (L : Int)) ∧ (wM_function (fun x72 H70 G71 => (wLaw_law_983 L Q (fun l3 H G => wLaw_law_18 L Q nn l3 H G) l3 H70 G71)) (H65 0 (e3_w32 (l3 + 1))) (H65 0 (e3_w32 (l3 + 2))) H65 G66)) (H 0 (e3_w32 (l3 + 1))) (H 0 (e3_w32 (l3 + 2))) H G)) ∧ (((e3_and (H 0 l3) 31) : Int) = 8 → ((0 : Int) ≤ (e3_w32 (l3 + 1)) ∧ ((e3_w32 (l3 + 1)) : Int) < (L : Int)) ∧ ((0 : Int) ≤ (e3_w32 (l3 + 2)) ∧ ((e3_w32 (l3 + 2)) : Int) < (L : Int)) ∧ ((0 : Int) ≤ (e3_w32 (l3 + 3)) ∧ ((e3_w32 (l3 + 3)) : Int) < (L : Int)) ∧ (wP_node (fun x78 H76 G77 => ((0 : Int) ≤ (e3_w32 (l3 + 1)) ∧ ((e3_w32 (l3 + 1)) : Int) < (L : Int)) ∧ ((0 : Int) ≤ (e3_w32 (l3 + 2)) ∧ ((e3_w32 (l3 + 2)) : Int) < (L : Int)) ∧ ((0 : Int) ≤ (e3_w32 (l3 + 3)) ∧ ((e3_w32 (l3 + 3)) : Int) < (L : Int)) ∧ (wM_node (fun x84 H82 G83 => (wLaw_law_983 L Q (fun l3 H G => wLaw_law_18 L Q nn l3 H G) l3 H82 G83)) (H76 0 (e3_w32 (l3 + 1))) (H76 0 (e3_w32 (l3 + 2))) (H76 0 (e3_w32 (l3 + 3))) H76 G77)) (H 0 (e3_w32 (l3 + 1))) (H 0 (e3_w32 (l3 + 2))) (H 0 (e3_w32 (l3 + 3))) H G)) ∧ (((e3_and (H 0 l3) 31) : Int) = 9 → ((0 : Int) ≤ (e3_w32 (l3 + 1)) ∧ ((e3_w32 (l3 + 1)) : Int) < (L : Int)) ∧ ((0 : Int) ≤ (e3_w32 (l3 + 2)) ∧ ((e3_w32 (l3 + 2)) : Int) < (L : Int)) ∧ ((0 : Int) ≤ (e3_w32 (l3 + 3)) ∧ ((e3_w32 (l3 + 3)) : Int) < (L : Int)) ∧ (wP_branch (fun x90 H88 G89 => ((0 : Int) ≤ (e3_w32 (l3 + 1)) ∧ ((e3_w32 (l3 + 1)) : Int) < (L : Int)) ∧ ((0 : Int) ≤ (e3_w32 (l3 + 2)) ∧ ((e3_w32 (l3 + 2)) : Int) < (L : Int)) ∧ ((0 : Int) ≤ (e3_w32 (l3 + 3)) ∧ ((e3_w32 (l3 + 3)) : Int) < (L : Int)) ∧ (wM_branch (fun x96 H94 G95 => (wLaw_law_983 L Q (fun l3 H G => wLaw_law_18 L Q nn l3 H G) l3 H94 G95)) (H88 0 (e3_w32 (l3 + 1))) (H88 0 (e3_w32 (l3 + 2))) (H88 0 (e3_w32 (l3 + 3))) H88 G89)) (H 0 (e3_w32 (l3 + 1))) (H 0 (e3_w32 (l3 + 2))) (H 0 (e3_w32 (l3 + 3))) H G)) ∧ (((e3_and (H 0 l3) 31) : Int) = 10 → ((0 : Int) ≤ (e3_w32 (l3 + 1)) ∧ ((e3_w32 (l3 + 1)) : Int) < (L : Int)) ∧ (wP_missing (fun x100 H98 G99 => ((0 : Int) ≤ (e3_w32 (l3 + 1)) ∧ ((e3_w32 (l3 + 1)) : Int) < (L : Int)) ∧ (wM_missing (fun x104 H102 G103 => (wLaw_law_983 L Q (fun l3 H G => wLaw_law_18 L Q nn l3 H G) l3 H102 G103)) (H98 0 (e3_w32 (l3 + 1))) H98 G99)) (H 0 (e3_w32 (l3 + 1))) H G)) ∧ (((e3_and (H 0 l3) 31) : Int) = 11 → ((0 : Int) ≤ (e3_w32 (l3 + 1)) ∧ ((e3_w32 (l3 + 1)) : Int) < (L : Int)) ∧ ((0 : Int) ≤ (e3_w32 (l3 + 2)) ∧ ((e3_w32 (l3 + 2)) : Int) < (L : Int)) ∧ (wP_unreached (fun x109 H107 G108 => ((0 : Int) ≤ (e3_w32 (l3 + 1)) ∧ ((e3_w32 (l3 + 1)) : Int) < (L : Int)) ∧ ((0 : Int) ≤ (e3_w32 (l3 + 2)) ∧ ((e3_w32 (l3 + 2)) : Int) < (L : Int)) ∧ (wM_unreached (fun x114 H112 G113 => (wLaw_law_983 L Q (fun l3 H G => wLaw_law_18 L Q nn l3 H G) l3 H112 G113)) (H107 0 (e3_w32 (l3 + 1))) (H107 0 (e3_w32 (l3 + 2))) H107 G108)) (H 0 (e3_w32 (l3 + 1))) (H 0 (e3_w32 (l3 + 2))) H G)) ∧ (((e3_and (H 0 l3) 31) : Int) = 12 → ((0 : Int) ≤ (e3_w32 (l3 + 1)) ∧ ((e3_w32 (l3 + 1)) : Int) < (L : Int)) ∧ (wP_whole (fun x118 H116 G117 => ((0 : Int) ≤ (e3_w32 (l3 + 1)) ∧ ((e3_w32 (l3 + 1)) : Int) < (L : Int)) ∧ (wM_whole (fun x122 H120 G121 => (wLaw_law_983 L Q (fun l3 H G => wLaw_law_18 L Q nn l3 H G) l3 H120 G121)) (H116 0 (e3_w32 (l3 + 1))) H116 G117)) (H 0 (e3_w32 (l3 + 1))) H G)) ∧ (((e3_and (H 0 l3) 31) : Int) = 13 → ((0 : Int) ≤ (e3_w32 (l3 + 1)) ∧ ((e3_w32 (l3 + 1)) : Int) < (L : Int)) ∧ (wP_truth (fun x126 H124 G125 => ((0 : Int) ≤ (e3_w32 (l3 + 1)) ∧ ((e3_w32 (l3 + 1)) : Int) < (L : Int)) ∧ (wM_truth (fun x130 H128 G129 => (wLaw_law_983 L Q (fun l3 H G => wLaw_law_18 L Q nn l3 H G) l3 H128 G129)) (H124 0 (e3_w32 (l3 + 1))) H124 G125)) (H 0 (e3_w32 (l3 + 1))) H G)) ∧ (((e3_and (H 0 l3) 31) : Int) = 14 → ((0 : Int) ≤ (e3_w32 (l3 + 1)) ∧ ((e3_w32 (l3 + 1)) : Int) < (L : Int)) ∧ ((0 : Int) ≤ (e3_w32 (l3 + 2)) ∧ ((e3_w32 (l3 + 2)) : Int) < (L : Int)) ∧ (wP_letters (fun x135 H133 G134 => ((0 : Int) ≤ (e3_w32 (l3 + 1)) ∧ ((e3_w32 (l3 + 1)) : Int) < (L : Int)) ∧ ((0 : Int) ≤ (e3_w32 (l3 + 2)) ∧ ((e3_w32 (l3 + 2)) : Int) < (L : Int)) ∧ (wM_letters (fun x140 H138 G139 => (wLaw_law_983 L Q (fun l3 H G => wLaw_law_18 L Q nn l3 H G) l3 H138 G139)) (e3_lor (e3_lshl (H133 0 (e3_w32 (l3 + 1))) 32) (e3_land (H133 0 (e3_w32 (l3 + 2))) 4294967295)) H133 G134)) (e3_lor (e3_lshl (H 0 (e3_w32 (l3 + 1))) 32) (e3_land (H 0 (e3_w32 (l3 + 2))) 4294967295)) H G)) ∧ (((e3_and (H 0 l3) 31) : Int) = 15 → (wP_nothing (fun x143 H141 G142 => (wM_nothing (fun x146 H144 G145 => (wLaw_law_983 L Q (fun l3 H G => wLaw_law_18 L Q nn l3 H G) l3 H144 G145)) H141 G142)) H G)) ∧ (((e3_and (H 0 l3) 31) : Int) = 16 → ((0 : Int) ≤ (e3_w32 (l3 + 1)) ∧ ((e3_w32 (l3 + 1)) : Int) < (L : Int)) ∧ ((0 : Int) ≤ (e3_w32 (l3 + 2)) ∧ ((e3_w32 (l3 + 2)) : Int) < (L : Int)) ∧ ((0 : Int) ≤ (e3_w32 (l3 + 3)) ∧ ((e3_w32 (l3 + 3)) : Int) < (L : Int)) ∧ ((0 : Int) ≤ (e3_w32 (l3 + 4)) ∧ ((e3_w32 (l3 + 4)) : Int) < (L : Int)) ∧ ((0 : Int) ≤ (e3_w32 (l3 + 5)) ∧ ((e3_w32 (l3 + 5)) : Int) < (L : Int)) ∧ (wP_make (fun x154 H152 G153 => ((0 : Int) ≤ (e3_w32 (l3 + 1)) ∧ ((e3_w32 (l3 + 1)) : Int) < (L : Int)) ∧ ((0 : Int) ≤ (e3_w32 (l3 + 2)) ∧ ((e3_w32 (l3 + 2)) : Int) < (L : Int)) ∧ ((0 : Int) ≤ (e3_w32 (l3 + 3)) ∧ ((e3_w32 (l3 + 3)) : Int) < (L : Int)) ∧ ((0 : Int) ≤ (e3_w32 (l3 + 4)) ∧ ((e3_w32 (l3 + 4)) : Int) < (L : Int)) ∧ ((0 : Int) ≤ (e3_w32 (l3 + 5)) ∧ ((e3_w32 (l3 + 5)) : Int) < (L : Int)) ∧ (wM_make (fun x162 H160 G161 => (wLaw_law_983 L Q (fun l3 H G => wLaw_law_18 L Q nn l3 H G) l3 H160 G161)) (H152 0 (e3_w32 (l3 + 1))) (H152 0 (e3_w32 (l3 + 2))) (H152 0 (e3_w32 (l3 + 3))) (H152 0 (e3_w32 (l3 + 4))) (H152 0 (e3_w32 (l3 + 5))) H152 G153)) (H 0 (e3_w32 (l3 + 1))) (H 0 (e3_w32 (l3 + 2))) (H 0 (e3_w32 (l3 + 3))) (H 0 (e3_w32 (l3 + 4))) (H 0 (e3_w32 (l3 + 5))) H G)) ∧ (((e3_and (H 0 l3) 31) : Int) = 17 → ((0 : Int) ≤ (e3_w32 (l3 + 1)) ∧ ((e3_w32 (l3 + 1)) : Int) < (L : Int)) ∧ ((0 : Int) ≤ (e3_w32 (l3 + 2)) ∧ ((e3_w32 (l3 + 2)) : Int) < (L : Int)) ∧ (wP_value (fun x167 H165 G166 => ((0 : Int) ≤ (e3_w32 (l3 + 1)) ∧ ((e3_w32 (l3 + 1)) : Int) < (L : Int)) ∧ ((0 : Int) ≤ (e3_w32 (l3 + 2)) ∧ ((e3_w32 (l3 + 2)) : Int) < (L : Int)) ∧ (wM_value (fun x172 H170 G171 => (wLaw_law_983 L Q (fun l3 H G => wLaw_law_18 L Q nn l3 H G) l3 H170 G171)) (H165 0 (e3_w32 (l3 + 1))) (H165 0 (e3_w32 (l3 + 2))) H165 G166)) (H 0 (e3_w32 (l3 + 1))) (H 0 (e3_w32 (l3 + 2))) H G)) ∧ (((e3_and (H 0 l3) 31) : Int) = 18 → ((0 : Int) ≤ (e3_w32 (l3 + 1)) ∧ ((e3_w32 (l3 + 1)) : Int) < (L : Int)) ∧ ((0 : Int) ≤ (e3_w32 (l3 + 2)) ∧ ((e3_w32 (l3 + 2)) : Int) < (L : Int)) ∧ (wP_alike (fun x177 H175 G176 => ((0 : Int) ≤ (e3_w32 (l3 + 1)) ∧ ((e3_w32 (l3 + 1)) : Int) < (L : Int)) ∧ ((0 : Int) ≤ (e3_w32 (l3 + 2)) ∧ ((e3_w32 (l3 + 2)) : Int) < (L : Int)) ∧ (wM_alike (fun x182 H180 G181 => (wLaw_law_983 L Q (fun l3 H G => wLaw_law_18 L Q nn l3 H G) l3 H180 G181)) (H175 0 (e3_w32 (l3 + 1))) (H175 0 (e3_w32 (l3 + 2))) H175 G176)) (H 0 (e3_w32 (l3 + 1))) (H 0 (e3_w32 (l3 + 2))) H G)) ∧ (((e3_and (H 0 l3) 31) : Int) = 19 → ((0 : Int) ≤ (e3_w32 (l3 + 1)) ∧ ((e3_w32 (l3 + 1)) : Int) < (L : Int)) ∧ ((0 : Int) ≤ (e3_w32 (l3 + 2)) ∧ ((e3_w32 (l3 + 2)) : Int) < (L : Int)) ∧ ((0 : Int) ≤ (e3_w32 (l3 + 3)) ∧ ((e3_w32 (l3 + 3)) : Int) < (L : Int)) ∧ ((0 : Int) ≤ (e3_w32 (l3 + 4)) ∧ ((e3_w32 (l3 + 4)) : Int) < (L : Int)) ∧ (wP_sort (fun x189 H187 G188 => ((0 : Int) ≤ (e3_w32 (l3 + 1)) ∧ ((e3_w32 (l3 + 1)) : Int) < (L : Int)) ∧ ((0 : Int) ≤ (e3_w32 (l3 + 2)) ∧ ((e3_w32 (l3 + 2)) : Int) < (L : Int)) ∧ ((0 : Int) ≤ (e3_w32 (l3 + 3)) ∧ ((e3_w32 (l3 + 3)) : Int) < (L : Int)) ∧ ((0 : Int) ≤ (e3_w32 (l3 + 4)) ∧ ((e3_w32 (l3 + 4)) : Int) < (L : Int)) ∧ (wM_sort (fun x196 H194 G195 => (wLaw_law_983 L Q (fun l3 H G => wLaw_law_18 L Q nn l3 H G) l3 H194 G195)) (H187 0 (e3_w32 (l3 + 1))) (H187 0 (e3_w32 (l3 + 2))) (H187 0 (e3_w32 (l3 + 3))) (H187 0 (e3_w32 (l3 + 4))) H187 G188)) (H 0 (e3_w32 (l3 + 1))) (H 0 (e3_w32 (l3 + 2))) (H 0 (e3_w32 (l3 + 3))) (H 0 (e3_w32 (l3 + 4))) H G)) ∧ (((e3_and (H 0 l3) 31) : Int) = 20 → ((0 : Int) ≤ (e3_w32 (l3 + 1)) ∧ ((e3_w32 (l3 + 1)) : Int) < (L : Int)) ∧ ((0 : Int) ≤ (e3_w32 (l3 + 2)) ∧ ((e3_w32 (l3 + 2)) : Int) < (L : Int)) ∧ ((0 : Int) ≤ (e3_w32 (l3 + 3)) ∧ ((e3_w32 (l3 + 3)) : Int) < (L : Int)) ∧ ((0 : Int) ≤ (e3_w32 (l3 + 4)) ∧ ((e3_w32 (l3 + 4)) : Int) < (L : Int)) ∧ (wP_plain (fun x203 H201 G202 => ((0 : Int) ≤ (e3_w32 (l3 + 1)) ∧ ((e3_w32 (l3 + 1)) : Int) < (L : Int)) ∧ ((0 : Int) ≤ (e3_w32 (l3 + 2)) ∧ ((e3_w32 (l3 + 2)) : Int) < (L : Int)) ∧ ((0 : Int) ≤ (e3_w32 (l3 + 3)) ∧ ((e3_w32 (l3 + 3)) : Int) < (L : Int)) ∧ ((0 : Int) ≤ (e3_w32 (l3 + 4)) ∧ ((e3_w32 (l3 + 4)) : Int) < (L : Int)) ∧ (wM_plain (fun x210 H208 G209 => (wLaw_law_983 L Q (fun l3 H G => wLaw_law_18 L Q nn l3 H G) l3 H208 G209)) (H201 0 (e3_w32 (l3 + 1))) (H201 0 (e3_w32 (l3 + 2))) (H201 0 (e3_w32 (l3 + 3))) (H201 0 (e3_w32 (l3 + 4))) H201 G202)) (H 0 (e3_w32 (l3 + 1))) (H 0 (e3_w32 (l3 + 2))) (H 0 (e3_w32 (l3 + 3))) (H 0 (e3_w32 (l3 + 4))) H G)) ∧ (((e3_and (H 0 l3) 31) : Int) = 21 → ((0 : Int) ≤ (e3_w32 (l3 + 1)) ∧ ((e3_w32 (l3 + 1)) : Int) < (L : Int)) ∧ (wP_told (fun x214 H212 G213 => ((0 : Int) ≤ (e3_w32 (l3 + 1)) ∧ ((e3_w32 (l3 + 1)) : Int) < (L : Int)) ∧ (wM_told (fun x218 H216 G217 => (wLaw_law_983 L Q (fun l3 H G => wLaw_law_18 L Q nn l3 H G) l3 H216 G217)) (H212 0 (e3_w32 (l3 + 1))) H212 G213)) (H 0 (e3_w32 (l3 + 1))) H G)) ∧ (((e3_and (H 0 l3) 31) : Int) = 22 → ((0 : Int) ≤ (e3_w32 (l3 + 1)) ∧ ((e3_w32 (l3 + 1)) : Int) < (L : Int)) ∧ (wP_guard (fun x222 H220 G221 => ((0 : Int) ≤ (e3_w32 (l3 + 1)) ∧ ((e3_w32 (l3 + 1)) : Int) < (L : Int)) ∧ (wM_guard (fun x226 H224 G225 => (wLaw_law_983 L Q (fun l3 H G => wLaw_law_18 L Q nn l3 H G) l3 H224 G225)) (H220 0 (e3_w32 (l3 + 1))) H220 G221)) (H 0 (e3_w32 (l3 + 1))) H G)) ∧ (((e3_and (H 0 l3) 31) : Int) = 23 → ((0 : Int) ≤ (e3_w32 (l3 + 1)) ∧ ((e3_w32 (l3 + 1)) : Int) < (L : Int)) ∧ (wP_bound (fun x230 H228 G229 => ((0 : Int) ≤ (e3_w32 (l3 + 1)) ∧ ((e3_w32 (l3 + 1)) : Int) < (L : Int)) ∧ (wM_bound (fun x234 H232 G233 => (wLaw_law_983 L Q (fun l3 H G => wLaw_law_18 L Q nn l3 H G) l3 H232 G233)) (H228 0 (e3_w32 (l3 + 1))) H228 G229)) (H 0 (e3_w32 (l3 + 1))) H G)) ∧ (((e3_and (H 0 l3) 31) : Int) = 24 → ((0 : Int) ≤ (e3_w32 (l3 + 1)) ∧ ((e3_w32 (l3 + 1)) : Int) < (L : Int)) ∧ (wP_count (fun x238 H236 G237 => ((0 : Int) ≤ (e3_w32 (l3 + 1)) ∧ ((e3_w32 (l3 + 1)) : Int) < (L : Int)) ∧ (wM_count (fun x242 H240 G241 => (((x238 : Int) = x242 → (wLaw_law_983 L Q (fun l3 H G => wLaw_law_18 L Q nn l3 H G) l3 H240 G241)) ∧ (¬ ((x238 : Int) = x242) → Q 0 H240 G241))) (H236 0 (e3_w32 (l3 + 1))) H236 G237)) (H 0 (e3_w32 (l3 + 1))) H G)) ∧ (((e3_and (H 0 l3) 31) : Int) < 0 ∨ 24 < (e3_and (H 0 l3) 31) → (wLaw_law_983 L Q (fun l3 H G => wLaw_law_18 L Q nn l3 H G) l3 H G))))) := h
    obtain ⟨o1, h⟩ := h
    refine e3_K [0, 0, 2, 0, 0] 24 [(2, 0), (2, 2), (2, 40), (0, l3)] [(0, (e3_w32 ((L : Int) - 6))), (0, l3)] (H) (G) (wZ L xs) (M := tbM0) rfl rfl ⟨o1, trivial⟩ ?_
    refine e3_br (M := tbM0) rfl rfl rfl Iff.rfl (fun hc => ?_) (fun hc => ?_)
    · replace h := h.1 hc
      refine e3_K [0] 990 [(2, 0), (2, 2), (2, 40), (0, l3)] [(0, 1)] (H) (G) (wZ L xs) (M := tbM0) rfl rfl trivial ?_
      exact e3_retb (M := tbM0) rfl rfl rfl (Or.inr rfl) ⟨_, rfl, h⟩
    · replace h := h.2 hc
      obtain ⟨o2, h⟩ := h
      refine e3_K [0, 0, 2, 0, 0] 33 [(2, 0), (2, 2), (2, 40), (0, l3)] [(0, (e3_and (H 0 l3) 31))] (H) (G) (wZ L xs) (M := tbM0) rfl rfl ⟨o2, trivial⟩ ?_
      by_cases hc0 : ((e3_and (H 0 l3) 31) : Int) = 0
      · replace h := h.1 hc0
        refine e3_sw (M := tbM0) rfl rfl hc0 rfl ?_
        obtain ⟨o3, o4, o5, h⟩ := h
        refine e3_K [0, 0, 0, 0, 0, 2, 0, 0, 0, 0, 0, 0, 0, 2, 0, 2, 0, 0, 0, 0, 0, 0, 2] 174 [(2, 0), (2, 2), (2, 40), (0, l3)] [(0, (H 0 (e3_w32 (l3 + 3)))), (1, (e3_lor (e3_lshl (H 0 (e3_w32 (l3 + 1))) 32) (e3_land (H 0 (e3_w32 (l3 + 2))) 4294967295))), (2, 2)] (H) (G) (wZ L xs) (M := tbM0) rfl rfl ⟨o3, o4, trivial, o5, trivial⟩ ?_
        refine e3_call (o := 0) (k := 9) (M2 := tbM9) (f1 := 1) (w1 := 24) (as := [(2, 2), (1, (e3_lor (e3_lshl (H 0 (e3_w32 (l3 + 1))) 32) (e3_land (H 0 (e3_w32 (l3 + 2))) 4294967295))), (0, (H 0 (e3_w32 (l3 + 3))))]) (rest := []) (M := tbM0) rfl rfl rfl trivial (Nat.le_of_ble_eq_true rfl) (Nat.le_of_ble_eq_true rfl) (Nat.le_of_ble_eq_true rfl) ?_
        refine e3_mono (sP_feed L xs _ _ _ _ _ h) (fun r H6 G7 h => ?_)
        obtain ⟨x8, rfl, h⟩ := h
        change e3_Ev _ _ _ _ 177 [(2, 0), (2, 2), (2, 40), (0, l3)] [(0, x8)] H6 G7 _
        obtain ⟨o9, o10, o11, h⟩ := h
        refine e3_K [0, 0, 0, 0, 0, 0, 2, 0, 0, 0, 0, 0, 0, 0, 2, 0, 2, 0, 0, 0, 0, 0, 0, 2] 204 [(2, 0), (2, 2), (2, 40), (0, l3)] [(0, (H6 0 (e3_w32 (l3 + 3)))), (1, (e3_lor (e3_lshl (H6 0 (e3_w32 (l3 + 1))) 32) (e3_land (H6 0 (e3_w32 (l3 + 2))) 4294967295))), (2, 40)] (H6) (G7) (wZ L xs) (M := tbM0) rfl rfl ⟨o9, o10, trivial, o11, trivial⟩ ?_
        refine e3_call (o := 0) (k := 197) (M2 := tbM197) (f1 := 1) (w1 := 25) (as := [(2, 40), (1, (e3_lor (e3_lshl (H6 0 (e3_w32 (l3 + 1))) 32) (e3_land (H6 0 (e3_w32 (l3 + 2))) 4294967295))), (0, (H6 0 (e3_w32 (l3 + 3))))]) (rest := []) (M := tbM0) rfl rfl rfl trivial (Nat.le_of_ble_eq_true rfl) (Nat.le_of_ble_eq_true rfl) (Nat.le_of_ble_eq_true rfl) ?_
        refine e3_mono (sM_feed L xs _ _ _ _ _ h) (fun r H12 G13 h => ?_)
        obtain ⟨x14, rfl, h⟩ := h
        change e3_Ev _ _ _ _ 207 [(2, 0), (2, 2), (2, 40), (0, l3)] [(0, x14)] H12 G13 _
        refine e3_K [0, 0] 983 [(2, 0), (2, 2), (2, 40), (0, l3)] [] (H12) (G13) (wZ L xs) (M := tbM0) rfl rfl trivial ?_
        exact sLaw_law_983 L xs Q (fun l3 H G => wLaw_law_18 L Q nn l3 H G) ih _ _ _ h
      replace h := h.2
      by_cases hc1 : ((e3_and (H 0 l3) 31) : Int) = 1
      · replace h := h.1 hc1
        refine e3_sw (M := tbM0) rfl rfl hc1 rfl ?_
        refine e3_K [0] 212 [(2, 0), (2, 2), (2, 40), (0, l3)] [(2, 2)] (H) (G) (wZ L xs) (M := tbM0) rfl rfl trivial ?_
        refine e3_call (o := 0) (k := 11) (M2 := tbM11) (f1 := 377) (w1 := 10167) (as := [(2, 2)]) (rest := []) (M := tbM0) rfl rfl rfl trivial (Nat.le_of_ble_eq_true rfl) (Nat.le_of_ble_eq_true rfl) (Nat.le_of_ble_eq_true rfl) ?_
        refine e3_mono (sP_read L xs _ _ _ h) (fun r H15 G16 h => ?_)
        obtain ⟨x17, rfl, h⟩ := h
        change e3_Ev _ _ _ _ 215 [(2, 0), (2, 2), (2, 40), (0, l3)] [(0, x17)] H15 G16 _
        refine e3_K [0, 0] 217 [(2, 0), (2, 2), (2, 40), (0, l3)] [(2, 40)] (H15) (G16) (wZ L xs) (M := tbM0) rfl rfl trivial ?_
        refine e3_call (o := 0) (k := 199) (M2 := tbM199) (f1 := 11) (w1 := 259) (as := [(2, 40)]) (rest := []) (M := tbM0) rfl rfl rfl trivial (Nat.le_of_ble_eq_true rfl) (Nat.le_of_ble_eq_true rfl) (Nat.le_of_ble_eq_true rfl) ?_
        refine e3_mono (sM_read L xs _ _ _ h) (fun r H18 G19 h => ?_)
        obtain ⟨x20, rfl, h⟩ := h
        change e3_Ev _ _ _ _ 220 [(2, 0), (2, 2), (2, 40), (0, l3)] [(0, x20)] H18 G19 _
        refine e3_K [0, 0] 983 [(2, 0), (2, 2), (2, 40), (0, l3)] [] (H18) (G19) (wZ L xs) (M := tbM0) rfl rfl trivial ?_
        exact sLaw_law_983 L xs Q (fun l3 H G => wLaw_law_18 L Q nn l3 H G) ih _ _ _ h
      replace h := h.2
      by_cases hc2 : ((e3_and (H 0 l3) 31) : Int) = 2
      · replace h := h.1 hc2
        refine e3_sw (M := tbM0) rfl rfl hc2 rfl ?_
        refine e3_K [0] 225 [(2, 0), (2, 2), (2, 40), (0, l3)] [(2, 2)] (H) (G) (wZ L xs) (M := tbM0) rfl rfl trivial ?_
        refine e3_call (o := 0) (k := 127) (M2 := tbM127) (f1 := 0) (w1 := 0) (as := [(2, 2)]) (rest := []) (M := tbM0) rfl rfl rfl trivial (Nat.le_of_ble_eq_true rfl) (Nat.le_of_ble_eq_true rfl) (Nat.le_of_ble_eq_true rfl) ?_
        refine e3_mono (sP_fault L xs _ _ _ h) (fun r H21 G22 h => ?_)
        obtain ⟨x23, rfl, h⟩ := h
        change e3_Ev _ _ _ _ 228 [(2, 0), (2, 2), (2, 40), (0, l3)] [(0, x23)] H21 G22 _
        refine e3_K [0, 0] 230 [(2, 0), (2, 2), (2, 40), (0, l3)] [(2, 40)] (H21) (G22) (wZ L xs) (M := tbM0) rfl rfl trivial ?_
        refine e3_call (o := 0) (k := 261) (M2 := tbM261) (f1 := 0) (w1 := 0) (as := [(2, 40)]) (rest := []) (M := tbM0) rfl rfl rfl trivial (Nat.le_of_ble_eq_true rfl) (Nat.le_of_ble_eq_true rfl) (Nat.le_of_ble_eq_true rfl) ?_
        refine e3_mono (sM_fault L xs _ _ _ h) (fun r H24 G25 h => ?_)
        obtain ⟨x26, rfl, h⟩ := h
        change e3_Ev _ _ _ _ 233 [(2, 0), (2, 2), (2, 40), (0, l3)] [(0, x26)] H24 G25 _
        refine e3_K [0, 0] 983 [(2, 0), (2, 2), (2, 40), (0, l3)] [] (H24) (G25) (wZ L xs) (M := tbM0) rfl rfl trivial ?_
        exact sLaw_law_983 L xs Q (fun l3 H G => wLaw_law_18 L Q nn l3 H G) ih _ _ _ h
      replace h := h.2
      by_cases hc3 : ((e3_and (H 0 l3) 31) : Int) = 3
      · replace h := h.1 hc3
        refine e3_sw (M := tbM0) rfl rfl hc3 rfl ?_
        refine e3_K [0] 238 [(2, 0), (2, 2), (2, 40), (0, l3)] [(2, 2)] (H) (G) (wZ L xs) (M := tbM0) rfl rfl trivial ?_
        refine e3_call (o := 0) (k := 128) (M2 := tbM128) (f1 := 12) (w1 := 487) (as := [(2, 2)]) (rest := []) (M := tbM0) rfl rfl rfl trivial (Nat.le_of_ble_eq_true rfl) (Nat.le_of_ble_eq_true rfl) (Nat.le_of_ble_eq_true rfl) ?_
        refine e3_mono (sP_add L xs _ _ _ h) (fun r H27 G28 h => ?_)
        obtain ⟨x29, rfl, h⟩ := h
        change e3_Ev _ _ _ _ 241 [(2, 0), (2, 2), (2, 40), (0, l3)] [(0, x29)] H27 G28 _
        refine e3_K [0, 0] 243 [(2, 0), (2, 2), (2, 40), (0, l3)] [(2, 40)] (H27) (G28) (wZ L xs) (M := tbM0) rfl rfl trivial ?_
        refine e3_call (o := 0) (k := 262) (M2 := tbM262) (f1 := 7) (w1 := 156) (as := [(2, 40)]) (rest := []) (M := tbM0) rfl rfl rfl trivial (Nat.le_of_ble_eq_true rfl) (Nat.le_of_ble_eq_true rfl) (Nat.le_of_ble_eq_true rfl) ?_
        refine e3_mono (sM_add L xs _ _ _ h) (fun r H30 G31 h => ?_)
        obtain ⟨x32, rfl, h⟩ := h
        change e3_Ev _ _ _ _ 246 [(2, 0), (2, 2), (2, 40), (0, l3)] [(0, x32)] H30 G31 _
        refine e3_K [0, 0] 983 [(2, 0), (2, 2), (2, 40), (0, l3)] [] (H30) (G31) (wZ L xs) (M := tbM0) rfl rfl trivial ?_
        exact sLaw_law_983 L xs Q (fun l3 H G => wLaw_law_18 L Q nn l3 H G) ih _ _ _ h
      replace h := h.2
      by_cases hc4 : ((e3_and (H 0 l3) 31) : Int) = 4
      · replace h := h.1 hc4
        refine e3_sw (M := tbM0) rfl rfl hc4 rfl ?_
        obtain ⟨o33, o34, h⟩ := h
        refine e3_K [0, 0, 0, 0, 0, 2, 0, 0, 0, 0, 2] 261 [(2, 0), (2, 2), (2, 40), (0, l3)] [(0, (H 0 (e3_w32 (l3 + 2)))), (0, (H 0 (e3_w32 (l3 + 1)))), (2, 2)] (H) (G) (wZ L xs) (M := tbM0) rfl rfl ⟨o33, o34, trivial⟩ ?_
        refine e3_call (o := 0) (k := 130) (M2 := tbM130) (f1 := 377) (w1 := 10167) (as := [(2, 2), (0, (H 0 (e3_w32 (l3 + 1)))), (0, (H 0 (e3_w32 (l3 + 2))))]) (rest := []) (M := tbM0) rfl rfl rfl trivial (Nat.le_of_ble_eq_true rfl) (Nat.le_of_ble_eq_true rfl) (Nat.le_of_ble_eq_true rfl) ?_
        refine e3_mono (sP_remake L xs _ _ _ _ _ h) (fun r H35 G36 h => ?_)
        obtain ⟨x37, rfl, h⟩ := h
        change e3_Ev _ _ _ _ 264 [(2, 0), (2, 2), (2, 40), (0, l3)] [(0, x37)] H35 G36 _
        obtain ⟨o38, o39, h⟩ := h
        refine e3_K [0, 0, 0, 0, 0, 0, 2, 0, 0, 0, 0, 2] 276 [(2, 0), (2, 2), (2, 40), (0, l3)] [(0, (H35 0 (e3_w32 (l3 + 2)))), (0, (H35 0 (e3_w32 (l3 + 1)))), (2, 40)] (H35) (G36) (wZ L xs) (M := tbM0) rfl rfl ⟨o38, o39, trivial⟩ ?_
        refine e3_call (o := 0) (k := 263) (M2 := tbM263) (f1 := 6) (w1 := 157) (as := [(2, 40), (0, (H35 0 (e3_w32 (l3 + 1)))), (0, (H35 0 (e3_w32 (l3 + 2))))]) (rest := []) (M := tbM0) rfl rfl rfl trivial (Nat.le_of_ble_eq_true rfl) (Nat.le_of_ble_eq_true rfl) (Nat.le_of_ble_eq_true rfl) ?_
        refine e3_mono (sM_remake L xs _ _ _ _ _ h) (fun r H40 G41 h => ?_)
        obtain ⟨x42, rfl, h⟩ := h
        change e3_Ev _ _ _ _ 279 [(2, 0), (2, 2), (2, 40), (0, l3)] [(0, x42)] H40 G41 _
        refine e3_K [0, 0] 983 [(2, 0), (2, 2), (2, 40), (0, l3)] [] (H40) (G41) (wZ L xs) (M := tbM0) rfl rfl trivial ?_
        exact sLaw_law_983 L xs Q (fun l3 H G => wLaw_law_18 L Q nn l3 H G) ih _ _ _ h
      replace h := h.2
      by_cases hc5 : ((e3_and (H 0 l3) 31) : Int) = 5
      · replace h := h.1 hc5
        refine e3_sw (M := tbM0) rfl rfl hc5 rfl ?_
        obtain ⟨o43, o44, h⟩ := h
        refine e3_K [0, 0, 0, 0, 0, 2, 0, 0, 0, 0, 2] 294 [(2, 0), (2, 2), (2, 40), (0, l3)] [(0, (H 0 (e3_w32 (l3 + 2)))), (0, (H 0 (e3_w32 (l3 + 1)))), (2, 2)] (H) (G) (wZ L xs) (M := tbM0) rfl rfl ⟨o43, o44, trivial⟩ ?_
        refine e3_call (o := 0) (k := 131) (M2 := tbM131) (f1 := 3) (w1 := 65) (as := [(2, 2), (0, (H 0 (e3_w32 (l3 + 1)))), (0, (H 0 (e3_w32 (l3 + 2))))]) (rest := []) (M := tbM0) rfl rfl rfl trivial (Nat.le_of_ble_eq_true rfl) (Nat.le_of_ble_eq_true rfl) (Nat.le_of_ble_eq_true rfl) ?_
        refine e3_mono (sP_kind L xs _ _ _ _ _ h) (fun r H45 G46 h => ?_)
        obtain ⟨x47, rfl, h⟩ := h
        change e3_Ev _ _ _ _ 297 [(2, 0), (2, 2), (2, 40), (0, l3)] [(0, x47)] H45 G46 _
        obtain ⟨o48, o49, h⟩ := h
        refine e3_K [0, 0, 0, 0, 0, 0, 2, 0, 0, 0, 0, 2] 309 [(2, 0), (2, 2), (2, 40), (0, l3)] [(0, (H45 0 (e3_w32 (l3 + 2)))), (0, (H45 0 (e3_w32 (l3 + 1)))), (2, 40)] (H45) (G46) (wZ L xs) (M := tbM0) rfl rfl ⟨o48, o49, trivial⟩ ?_
        refine e3_call (o := 0) (k := 266) (M2 := tbM266) (f1 := 2) (w1 := 46) (as := [(2, 40), (0, (H45 0 (e3_w32 (l3 + 1)))), (0, (H45 0 (e3_w32 (l3 + 2))))]) (rest := []) (M := tbM0) rfl rfl rfl trivial (Nat.le_of_ble_eq_true rfl) (Nat.le_of_ble_eq_true rfl) (Nat.le_of_ble_eq_true rfl) ?_
        refine e3_mono (sM_kind L xs _ _ _ _ _ h) (fun r H50 G51 h => ?_)
        obtain ⟨x52, rfl, h⟩ := h
        change e3_Ev _ _ _ _ 312 [(2, 0), (2, 2), (2, 40), (0, l3)] [(0, x52)] H50 G51 _
        refine e3_K [0, 0] 983 [(2, 0), (2, 2), (2, 40), (0, l3)] [] (H50) (G51) (wZ L xs) (M := tbM0) rfl rfl trivial ?_
        exact sLaw_law_983 L xs Q (fun l3 H G => wLaw_law_18 L Q nn l3 H G) ih _ _ _ h
      replace h := h.2
      by_cases hc6 : ((e3_and (H 0 l3) 31) : Int) = 6
      · replace h := h.1 hc6
        refine e3_sw (M := tbM0) rfl rfl hc6 rfl ?_
        obtain ⟨o53, o54, h⟩ := h
        refine e3_K [0, 0, 0, 0, 0, 2, 0, 0, 0, 0, 0, 0, 0, 2, 0, 2, 0, 0] 337 [(2, 0), (2, 2), (2, 40), (0, l3)] [(1, (e3_lor (e3_lshl (H 0 (e3_w32 (l3 + 1))) 32) (e3_land (H 0 (e3_w32 (l3 + 2))) 4294967295))), (2, 2)] (H) (G) (wZ L xs) (M := tbM0) rfl rfl ⟨o53, o54, trivial, trivial⟩ ?_
        refine e3_call (o := 0) (k := 133) (M2 := tbM133) (f1 := 1) (w1 := 23) (as := [(2, 2), (1, (e3_lor (e3_lshl (H 0 (e3_w32 (l3 + 1))) 32) (e3_land (H 0 (e3_w32 (l3 + 2))) 4294967295)))]) (rest := []) (M := tbM0) rfl rfl rfl trivial (Nat.le_of_ble_eq_true rfl) (Nat.le_of_ble_eq_true rfl) (Nat.le_of_ble_eq_true rfl) ?_
        refine e3_mono (sP_kindNamed L xs _ _ _ _ h) (fun r H55 G56 h => ?_)
        obtain ⟨x57, rfl, h⟩ := h
        change e3_Ev _ _ _ _ 340 [(2, 0), (2, 2), (2, 40), (0, l3)] [(0, x57)] H55 G56 _
        obtain ⟨o58, o59, h⟩ := h
        refine e3_K [0, 0, 0, 0, 0, 0, 2, 0, 0, 0, 0, 0, 0, 0, 2, 0, 2, 0, 0] 362 [(2, 0), (2, 2), (2, 40), (0, l3)] [(1, (e3_lor (e3_lshl (H55 0 (e3_w32 (l3 + 1))) 32) (e3_land (H55 0 (e3_w32 (l3 + 2))) 4294967295))), (2, 40)] (H55) (G56) (wZ L xs) (M := tbM0) rfl rfl ⟨o58, o59, trivial, trivial⟩ ?_
        refine e3_call (o := 0) (k := 268) (M2 := tbM268) (f1 := 1) (w1 := 24) (as := [(2, 40), (1, (e3_lor (e3_lshl (H55 0 (e3_w32 (l3 + 1))) 32) (e3_land (H55 0 (e3_w32 (l3 + 2))) 4294967295)))]) (rest := []) (M := tbM0) rfl rfl rfl trivial (Nat.le_of_ble_eq_true rfl) (Nat.le_of_ble_eq_true rfl) (Nat.le_of_ble_eq_true rfl) ?_
        refine e3_mono (sM_kindNamed L xs _ _ _ _ h) (fun r H60 G61 h => ?_)
        obtain ⟨x62, rfl, h⟩ := h
        change e3_Ev _ _ _ _ 365 [(2, 0), (2, 2), (2, 40), (0, l3)] [(0, x62)] H60 G61 _
        refine e3_K [0, 0] 983 [(2, 0), (2, 2), (2, 40), (0, l3)] [] (H60) (G61) (wZ L xs) (M := tbM0) rfl rfl trivial ?_
        exact sLaw_law_983 L xs Q (fun l3 H G => wLaw_law_18 L Q nn l3 H G) ih _ _ _ h
      replace h := h.2
      by_cases hc7 : ((e3_and (H 0 l3) 31) : Int) = 7
      · replace h := h.1 hc7
        refine e3_sw (M := tbM0) rfl rfl hc7 rfl ?_
        obtain ⟨o63, o64, h⟩ := h
        refine e3_K [0, 0, 0, 0, 0, 2, 0, 0, 0, 0, 2] 380 [(2, 0), (2, 2), (2, 40), (0, l3)] [(0, (H 0 (e3_w32 (l3 + 2)))), (0, (H 0 (e3_w32 (l3 + 1)))), (2, 2)] (H) (G) (wZ L xs) (M := tbM0) rfl rfl ⟨o63, o64, trivial⟩ ?_
        refine e3_call (o := 0) (k := 134) (M2 := tbM134) (f1 := 1) (w1 := 22) (as := [(2, 2), (0, (H 0 (e3_w32 (l3 + 1)))), (0, (H 0 (e3_w32 (l3 + 2))))]) (rest := []) (M := tbM0) rfl rfl rfl trivial (Nat.le_of_ble_eq_true rfl) (Nat.le_of_ble_eq_true rfl) (Nat.le_of_ble_eq_true rfl) ?_
        refine e3_mono (sP_function L xs _ _ _ _ _ h) (fun r H65 G66 h => ?_)
        obtain ⟨x67, rfl, h⟩ := h
        change e3_Ev _ _ _ _ 383 [(2, 0), (2, 2), (2, 40), (0, l3)] [(0, x67)] H65 G66 _
        obtain ⟨o68, o69, h⟩ := h
        refine e3_K [0, 0, 0, 0, 0, 0, 2, 0, 0, 0, 0, 2] 395 [(2, 0), (2, 2), (2, 40), (0, l3)] [(0, (H65 0 (e3_w32 (l3 + 2)))), (0, (H65 0 (e3_w32 (l3 + 1)))), (2, 40)] (H65) (G66) (wZ L xs) (M := tbM0) rfl rfl ⟨o68, o69, trivial⟩ ?_
        refine e3_call (o := 0) (k := 269) (M2 := tbM269) (f1 := 2) (w1 := 46) (as := [(2, 40), (0, (H65 0 (e3_w32 (l3 + 1)))), (0, (H65 0 (e3_w32 (l3 + 2))))]) (rest := []) (M := tbM0) rfl rfl rfl trivial (Nat.le_of_ble_eq_true rfl) (Nat.le_of_ble_eq_true rfl) (Nat.le_of_ble_eq_true rfl) ?_
        refine e3_mono (sM_function L xs _ _ _ _ _ h) (fun r H70 G71 h => ?_)
        obtain ⟨x72, rfl, h⟩ := h
        change e3_Ev _ _ _ _ 398 [(2, 0), (2, 2), (2, 40), (0, l3)] [(0, x72)] H70 G71 _
        refine e3_K [0, 0] 983 [(2, 0), (2, 2), (2, 40), (0, l3)] [] (H70) (G71) (wZ L xs) (M := tbM0) rfl rfl trivial ?_
        exact sLaw_law_983 L xs Q (fun l3 H G => wLaw_law_18 L Q nn l3 H G) ih _ _ _ h
      replace h := h.2
      by_cases hc8 : ((e3_and (H 0 l3) 31) : Int) = 8
      · replace h := h.1 hc8
        refine e3_sw (M := tbM0) rfl rfl hc8 rfl ?_
        obtain ⟨o73, o74, o75, h⟩ := h
        refine e3_K [0, 0, 0, 0, 0, 2, 0, 0, 0, 0, 2, 0, 0, 0, 0, 2] 418 [(2, 0), (2, 2), (2, 40), (0, l3)] [(0, (H 0 (e3_w32 (l3 + 3)))), (0, (H 0 (e3_w32 (l3 + 2)))), (0, (H 0 (e3_w32 (l3 + 1)))), (2, 2)] (H) (G) (wZ L xs) (M := tbM0) rfl rfl ⟨o73, o74, o75, trivial⟩ ?_
        refine e3_call (o := 0) (k := 136) (M2 := tbM136) (f1 := 3) (w1 := 68) (as := [(2, 2), (0, (H 0 (e3_w32 (l3 + 1)))), (0, (H 0 (e3_w32 (l3 + 2)))), (0, (H 0 (e3_w32 (l3 + 3))))]) (rest := []) (M := tbM0) rfl rfl rfl trivial (Nat.le_of_ble_eq_true rfl) (Nat.le_of_ble_eq_true rfl) (Nat.le_of_ble_eq_true rfl) ?_
        refine e3_mono (sP_node L xs _ _ _ _ _ _ h) (fun r H76 G77 h => ?_)
        obtain ⟨x78, rfl, h⟩ := h
        change e3_Ev _ _ _ _ 421 [(2, 0), (2, 2), (2, 40), (0, l3)] [(0, x78)] H76 G77 _
        obtain ⟨o79, o80, o81, h⟩ := h
        refine e3_K [0, 0, 0, 0, 0, 0, 2, 0, 0, 0, 0, 2, 0, 0, 0, 0, 2] 438 [(2, 0), (2, 2), (2, 40), (0, l3)] [(0, (H76 0 (e3_w32 (l3 + 3)))), (0, (H76 0 (e3_w32 (l3 + 2)))), (0, (H76 0 (e3_w32 (l3 + 1)))), (2, 40)] (H76) (G77) (wZ L xs) (M := tbM0) rfl rfl ⟨o79, o80, o81, trivial⟩ ?_
        refine e3_call (o := 0) (k := 271) (M2 := tbM271) (f1 := 2) (w1 := 46) (as := [(2, 40), (0, (H76 0 (e3_w32 (l3 + 1)))), (0, (H76 0 (e3_w32 (l3 + 2)))), (0, (H76 0 (e3_w32 (l3 + 3))))]) (rest := []) (M := tbM0) rfl rfl rfl trivial (Nat.le_of_ble_eq_true rfl) (Nat.le_of_ble_eq_true rfl) (Nat.le_of_ble_eq_true rfl) ?_
        refine e3_mono (sM_node L xs _ _ _ _ _ _ h) (fun r H82 G83 h => ?_)
        obtain ⟨x84, rfl, h⟩ := h
        change e3_Ev _ _ _ _ 441 [(2, 0), (2, 2), (2, 40), (0, l3)] [(0, x84)] H82 G83 _
        refine e3_K [0, 0] 983 [(2, 0), (2, 2), (2, 40), (0, l3)] [] (H82) (G83) (wZ L xs) (M := tbM0) rfl rfl trivial ?_
        exact sLaw_law_983 L xs Q (fun l3 H G => wLaw_law_18 L Q nn l3 H G) ih _ _ _ h
      replace h := h.2
      by_cases hc9 : ((e3_and (H 0 l3) 31) : Int) = 9
      · replace h := h.1 hc9
        refine e3_sw (M := tbM0) rfl rfl hc9 rfl ?_
        obtain ⟨o85, o86, o87, h⟩ := h
        refine e3_K [0, 0, 0, 0, 0, 2, 0, 0, 0, 0, 2, 0, 0, 0, 0, 2] 461 [(2, 0), (2, 2), (2, 40), (0, l3)] [(0, (H 0 (e3_w32 (l3 + 3)))), (0, (H 0 (e3_w32 (l3 + 2)))), (0, (H 0 (e3_w32 (l3 + 1)))), (2, 2)] (H) (G) (wZ L xs) (M := tbM0) rfl rfl ⟨o85, o86, o87, trivial⟩ ?_
        refine e3_call (o := 0) (k := 140) (M2 := tbM140) (f1 := 2) (w1 := 45) (as := [(2, 2), (0, (H 0 (e3_w32 (l3 + 1)))), (0, (H 0 (e3_w32 (l3 + 2)))), (0, (H 0 (e3_w32 (l3 + 3))))]) (rest := []) (M := tbM0) rfl rfl rfl trivial (Nat.le_of_ble_eq_true rfl) (Nat.le_of_ble_eq_true rfl) (Nat.le_of_ble_eq_true rfl) ?_
        refine e3_mono (sP_branch L xs _ _ _ _ _ _ h) (fun r H88 G89 h => ?_)
        obtain ⟨x90, rfl, h⟩ := h
        change e3_Ev _ _ _ _ 464 [(2, 0), (2, 2), (2, 40), (0, l3)] [(0, x90)] H88 G89 _
        obtain ⟨o91, o92, o93, h⟩ := h
        refine e3_K [0, 0, 0, 0, 0, 0, 2, 0, 0, 0, 0, 2, 0, 0, 0, 0, 2] 481 [(2, 0), (2, 2), (2, 40), (0, l3)] [(0, (H88 0 (e3_w32 (l3 + 3)))), (0, (H88 0 (e3_w32 (l3 + 2)))), (0, (H88 0 (e3_w32 (l3 + 1)))), (2, 40)] (H88) (G89) (wZ L xs) (M := tbM0) rfl rfl ⟨o91, o92, o93, trivial⟩ ?_
        refine e3_call (o := 0) (k := 272) (M2 := tbM272) (f1 := 2) (w1 := 46) (as := [(2, 40), (0, (H88 0 (e3_w32 (l3 + 1)))), (0, (H88 0 (e3_w32 (l3 + 2)))), (0, (H88 0 (e3_w32 (l3 + 3))))]) (rest := []) (M := tbM0) rfl rfl rfl trivial (Nat.le_of_ble_eq_true rfl) (Nat.le_of_ble_eq_true rfl) (Nat.le_of_ble_eq_true rfl) ?_
        refine e3_mono (sM_branch L xs _ _ _ _ _ _ h) (fun r H94 G95 h => ?_)
        obtain ⟨x96, rfl, h⟩ := h
        change e3_Ev _ _ _ _ 484 [(2, 0), (2, 2), (2, 40), (0, l3)] [(0, x96)] H94 G95 _
        refine e3_K [0, 0] 983 [(2, 0), (2, 2), (2, 40), (0, l3)] [] (H94) (G95) (wZ L xs) (M := tbM0) rfl rfl trivial ?_
        exact sLaw_law_983 L xs Q (fun l3 H G => wLaw_law_18 L Q nn l3 H G) ih _ _ _ h
      replace h := h.2
      by_cases hc10 : ((e3_and (H 0 l3) 31) : Int) = 10
      · replace h := h.1 hc10
        refine e3_sw (M := tbM0) rfl rfl hc10 rfl ?_
        obtain ⟨o97, h⟩ := h
        refine e3_K [0, 0, 0, 0, 0, 2] 494 [(2, 0), (2, 2), (2, 40), (0, l3)] [(0, (H 0 (e3_w32 (l3 + 1)))), (2, 2)] (H) (G) (wZ L xs) (M := tbM0) rfl rfl ⟨o97, trivial⟩ ?_
        refine e3_call (o := 0) (k := 142) (M2 := tbM142) (f1 := 377) (w1 := 10167) (as := [(2, 2), (0, (H 0 (e3_w32 (l3 + 1))))]) (rest := []) (M := tbM0) rfl rfl rfl trivial (Nat.le_of_ble_eq_true rfl) (Nat.le_of_ble_eq_true rfl) (Nat.le_of_ble_eq_true rfl) ?_
        refine e3_mono (sP_missing L xs _ _ _ _ h) (fun r H98 G99 h => ?_)
        obtain ⟨x100, rfl, h⟩ := h
        change e3_Ev _ _ _ _ 497 [(2, 0), (2, 2), (2, 40), (0, l3)] [(0, x100)] H98 G99 _
        obtain ⟨o101, h⟩ := h
        refine e3_K [0, 0, 0, 0, 0, 0, 2] 504 [(2, 0), (2, 2), (2, 40), (0, l3)] [(0, (H98 0 (e3_w32 (l3 + 1)))), (2, 40)] (H98) (G99) (wZ L xs) (M := tbM0) rfl rfl ⟨o101, trivial⟩ ?_
        refine e3_call (o := 0) (k := 273) (M2 := tbM273) (f1 := 6) (w1 := 157) (as := [(2, 40), (0, (H98 0 (e3_w32 (l3 + 1))))]) (rest := []) (M := tbM0) rfl rfl rfl trivial (Nat.le_of_ble_eq_true rfl) (Nat.le_of_ble_eq_true rfl) (Nat.le_of_ble_eq_true rfl) ?_
        refine e3_mono (sM_missing L xs _ _ _ _ h) (fun r H102 G103 h => ?_)
        obtain ⟨x104, rfl, h⟩ := h
        change e3_Ev _ _ _ _ 507 [(2, 0), (2, 2), (2, 40), (0, l3)] [(0, x104)] H102 G103 _
        refine e3_K [0, 0] 983 [(2, 0), (2, 2), (2, 40), (0, l3)] [] (H102) (G103) (wZ L xs) (M := tbM0) rfl rfl trivial ?_
        exact sLaw_law_983 L xs Q (fun l3 H G => wLaw_law_18 L Q nn l3 H G) ih _ _ _ h
      replace h := h.2
      by_cases hc11 : ((e3_and (H 0 l3) 31) : Int) = 11
      · replace h := h.1 hc11
        refine e3_sw (M := tbM0) rfl rfl hc11 rfl ?_
        obtain ⟨o105, o106, h⟩ := h
        refine e3_K [0, 0, 0, 0, 0, 2, 0, 0, 0, 0, 2] 522 [(2, 0), (2, 2), (2, 40), (0, l3)] [(0, (H 0 (e3_w32 (l3 + 2)))), (0, (H 0 (e3_w32 (l3 + 1)))), (2, 2)] (H) (G) (wZ L xs) (M := tbM0) rfl rfl ⟨o105, o106, trivial⟩ ?_
        refine e3_call (o := 0) (k := 145) (M2 := tbM145) (f1 := 377) (w1 := 10167) (as := [(2, 2), (0, (H 0 (e3_w32 (l3 + 1)))), (0, (H 0 (e3_w32 (l3 + 2))))]) (rest := []) (M := tbM0) rfl rfl rfl trivial (Nat.le_of_ble_eq_true rfl) (Nat.le_of_ble_eq_true rfl) (Nat.le_of_ble_eq_true rfl) ?_
        refine e3_mono (sP_unreached L xs _ _ _ _ _ h) (fun r H107 G108 h => ?_)
        obtain ⟨x109, rfl, h⟩ := h
        change e3_Ev _ _ _ _ 525 [(2, 0), (2, 2), (2, 40), (0, l3)] [(0, x109)] H107 G108 _
        obtain ⟨o110, o111, h⟩ := h
        refine e3_K [0, 0, 0, 0, 0, 0, 2, 0, 0, 0, 0, 2] 537 [(2, 0), (2, 2), (2, 40), (0, l3)] [(0, (H107 0 (e3_w32 (l3 + 2)))), (0, (H107 0 (e3_w32 (l3 + 1)))), (2, 40)] (H107) (G108) (wZ L xs) (M := tbM0) rfl rfl ⟨o110, o111, trivial⟩ ?_
        refine e3_call (o := 0) (k := 274) (M2 := tbM274) (f1 := 6) (w1 := 157) (as := [(2, 40), (0, (H107 0 (e3_w32 (l3 + 1)))), (0, (H107 0 (e3_w32 (l3 + 2))))]) (rest := []) (M := tbM0) rfl rfl rfl trivial (Nat.le_of_ble_eq_true rfl) (Nat.le_of_ble_eq_true rfl) (Nat.le_of_ble_eq_true rfl) ?_
        refine e3_mono (sM_unreached L xs _ _ _ _ _ h) (fun r H112 G113 h => ?_)
        obtain ⟨x114, rfl, h⟩ := h
        change e3_Ev _ _ _ _ 540 [(2, 0), (2, 2), (2, 40), (0, l3)] [(0, x114)] H112 G113 _
        refine e3_K [0, 0] 983 [(2, 0), (2, 2), (2, 40), (0, l3)] [] (H112) (G113) (wZ L xs) (M := tbM0) rfl rfl trivial ?_
        exact sLaw_law_983 L xs Q (fun l3 H G => wLaw_law_18 L Q nn l3 H G) ih _ _ _ h
      replace h := h.2
      by_cases hc12 : ((e3_and (H 0 l3) 31) : Int) = 12
      · replace h := h.1 hc12
        refine e3_sw (M := tbM0) rfl rfl hc12 rfl ?_
        obtain ⟨o115, h⟩ := h
        refine e3_K [0, 0, 0, 0, 0, 2] 550 [(2, 0), (2, 2), (2, 40), (0, l3)] [(0, (H 0 (e3_w32 (l3 + 1)))), (2, 2)] (H) (G) (wZ L xs) (M := tbM0) rfl rfl ⟨o115, trivial⟩ ?_
        refine e3_call (o := 0) (k := 147) (M2 := tbM147) (f1 := 4) (w1 := 129) (as := [(2, 2), (0, (H 0 (e3_w32 (l3 + 1))))]) (rest := []) (M := tbM0) rfl rfl rfl trivial (Nat.le_of_ble_eq_true rfl) (Nat.le_of_ble_eq_true rfl) (Nat.le_of_ble_eq_true rfl) ?_
        refine e3_mono (sP_whole L xs _ _ _ _ h) (fun r H116 G117 h => ?_)
        obtain ⟨x118, rfl, h⟩ := h
        change e3_Ev _ _ _ _ 553 [(2, 0), (2, 2), (2, 40), (0, l3)] [(0, x118)] H116 G117 _
        obtain ⟨o119, h⟩ := h
        refine e3_K [0, 0, 0, 0, 0, 0, 2] 560 [(2, 0), (2, 2), (2, 40), (0, l3)] [(0, (H116 0 (e3_w32 (l3 + 1)))), (2, 40)] (H116) (G117) (wZ L xs) (M := tbM0) rfl rfl ⟨o119, trivial⟩ ?_
        refine e3_call (o := 0) (k := 275) (M2 := tbM275) (f1 := 1) (w1 := 24) (as := [(2, 40), (0, (H116 0 (e3_w32 (l3 + 1))))]) (rest := []) (M := tbM0) rfl rfl rfl trivial (Nat.le_of_ble_eq_true rfl) (Nat.le_of_ble_eq_true rfl) (Nat.le_of_ble_eq_true rfl) ?_
        refine e3_mono (sM_whole L xs _ _ _ _ h) (fun r H120 G121 h => ?_)
        obtain ⟨x122, rfl, h⟩ := h
        change e3_Ev _ _ _ _ 563 [(2, 0), (2, 2), (2, 40), (0, l3)] [(0, x122)] H120 G121 _
        refine e3_K [0, 0] 983 [(2, 0), (2, 2), (2, 40), (0, l3)] [] (H120) (G121) (wZ L xs) (M := tbM0) rfl rfl trivial ?_
        exact sLaw_law_983 L xs Q (fun l3 H G => wLaw_law_18 L Q nn l3 H G) ih _ _ _ h
      replace h := h.2
      by_cases hc13 : ((e3_and (H 0 l3) 31) : Int) = 13
      · replace h := h.1 hc13
        refine e3_sw (M := tbM0) rfl rfl hc13 rfl ?_
        obtain ⟨o123, h⟩ := h
        refine e3_K [0, 0, 0, 0, 0, 2] 573 [(2, 0), (2, 2), (2, 40), (0, l3)] [(0, (H 0 (e3_w32 (l3 + 1)))), (2, 2)] (H) (G) (wZ L xs) (M := tbM0) rfl rfl ⟨o123, trivial⟩ ?_
        refine e3_call (o := 0) (k := 152) (M2 := tbM152) (f1 := 4) (w1 := 129) (as := [(2, 2), (0, (H 0 (e3_w32 (l3 + 1))))]) (rest := []) (M := tbM0) rfl rfl rfl trivial (Nat.le_of_ble_eq_true rfl) (Nat.le_of_ble_eq_true rfl) (Nat.le_of_ble_eq_true rfl) ?_
        refine e3_mono (sP_truth L xs _ _ _ _ h) (fun r H124 G125 h => ?_)
        obtain ⟨x126, rfl, h⟩ := h
        change e3_Ev _ _ _ _ 576 [(2, 0), (2, 2), (2, 40), (0, l3)] [(0, x126)] H124 G125 _
        obtain ⟨o127, h⟩ := h
        refine e3_K [0, 0, 0, 0, 0, 0, 2] 583 [(2, 0), (2, 2), (2, 40), (0, l3)] [(0, (H124 0 (e3_w32 (l3 + 1)))), (2, 40)] (H124) (G125) (wZ L xs) (M := tbM0) rfl rfl ⟨o127, trivial⟩ ?_
        refine e3_call (o := 0) (k := 277) (M2 := tbM277) (f1 := 1) (w1 := 24) (as := [(2, 40), (0, (H124 0 (e3_w32 (l3 + 1))))]) (rest := []) (M := tbM0) rfl rfl rfl trivial (Nat.le_of_ble_eq_true rfl) (Nat.le_of_ble_eq_true rfl) (Nat.le_of_ble_eq_true rfl) ?_
        refine e3_mono (sM_truth L xs _ _ _ _ h) (fun r H128 G129 h => ?_)
        obtain ⟨x130, rfl, h⟩ := h
        change e3_Ev _ _ _ _ 586 [(2, 0), (2, 2), (2, 40), (0, l3)] [(0, x130)] H128 G129 _
        refine e3_K [0, 0] 983 [(2, 0), (2, 2), (2, 40), (0, l3)] [] (H128) (G129) (wZ L xs) (M := tbM0) rfl rfl trivial ?_
        exact sLaw_law_983 L xs Q (fun l3 H G => wLaw_law_18 L Q nn l3 H G) ih _ _ _ h
      replace h := h.2
      by_cases hc14 : ((e3_and (H 0 l3) 31) : Int) = 14
      · replace h := h.1 hc14
        refine e3_sw (M := tbM0) rfl rfl hc14 rfl ?_
        obtain ⟨o131, o132, h⟩ := h
        refine e3_K [0, 0, 0, 0, 0, 2, 0, 0, 0, 0, 0, 0, 0, 2, 0, 2, 0, 0] 611 [(2, 0), (2, 2), (2, 40), (0, l3)] [(1, (e3_lor (e3_lshl (H 0 (e3_w32 (l3 + 1))) 32) (e3_land (H 0 (e3_w32 (l3 + 2))) 4294967295))), (2, 2)] (H) (G) (wZ L xs) (M := tbM0) rfl rfl ⟨o131, o132, trivial, trivial⟩ ?_
        refine e3_call (o := 0) (k := 153) (M2 := tbM153) (f1 := 4) (w1 := 129) (as := [(2, 2), (1, (e3_lor (e3_lshl (H 0 (e3_w32 (l3 + 1))) 32) (e3_land (H 0 (e3_w32 (l3 + 2))) 4294967295)))]) (rest := []) (M := tbM0) rfl rfl rfl trivial (Nat.le_of_ble_eq_true rfl) (Nat.le_of_ble_eq_true rfl) (Nat.le_of_ble_eq_true rfl) ?_
        refine e3_mono (sP_letters L xs _ _ _ _ h) (fun r H133 G134 h => ?_)
        obtain ⟨x135, rfl, h⟩ := h
        change e3_Ev _ _ _ _ 614 [(2, 0), (2, 2), (2, 40), (0, l3)] [(0, x135)] H133 G134 _
        obtain ⟨o136, o137, h⟩ := h
        refine e3_K [0, 0, 0, 0, 0, 0, 2, 0, 0, 0, 0, 0, 0, 0, 2, 0, 2, 0, 0] 636 [(2, 0), (2, 2), (2, 40), (0, l3)] [(1, (e3_lor (e3_lshl (H133 0 (e3_w32 (l3 + 1))) 32) (e3_land (H133 0 (e3_w32 (l3 + 2))) 4294967295))), (2, 40)] (H133) (G134) (wZ L xs) (M := tbM0) rfl rfl ⟨o136, o137, trivial, trivial⟩ ?_
        refine e3_call (o := 0) (k := 278) (M2 := tbM278) (f1 := 2) (w1 := 45) (as := [(2, 40), (1, (e3_lor (e3_lshl (H133 0 (e3_w32 (l3 + 1))) 32) (e3_land (H133 0 (e3_w32 (l3 + 2))) 4294967295)))]) (rest := []) (M := tbM0) rfl rfl rfl trivial (Nat.le_of_ble_eq_true rfl) (Nat.le_of_ble_eq_true rfl) (Nat.le_of_ble_eq_true rfl) ?_
        refine e3_mono (sM_letters L xs _ _ _ _ h) (fun r H138 G139 h => ?_)
        obtain ⟨x140, rfl, h⟩ := h
        change e3_Ev _ _ _ _ 639 [(2, 0), (2, 2), (2, 40), (0, l3)] [(0, x140)] H138 G139 _
        refine e3_K [0, 0] 983 [(2, 0), (2, 2), (2, 40), (0, l3)] [] (H138) (G139) (wZ L xs) (M := tbM0) rfl rfl trivial ?_
        exact sLaw_law_983 L xs Q (fun l3 H G => wLaw_law_18 L Q nn l3 H G) ih _ _ _ h
      replace h := h.2
      by_cases hc15 : ((e3_and (H 0 l3) 31) : Int) = 15
      · replace h := h.1 hc15
        refine e3_sw (M := tbM0) rfl rfl hc15 rfl ?_
        refine e3_K [0] 644 [(2, 0), (2, 2), (2, 40), (0, l3)] [(2, 2)] (H) (G) (wZ L xs) (M := tbM0) rfl rfl trivial ?_
        refine e3_call (o := 0) (k := 155) (M2 := tbM155) (f1 := 4) (w1 := 129) (as := [(2, 2)]) (rest := []) (M := tbM0) rfl rfl rfl trivial (Nat.le_of_ble_eq_true rfl) (Nat.le_of_ble_eq_true rfl) (Nat.le_of_ble_eq_true rfl) ?_
        refine e3_mono (sP_nothing L xs _ _ _ h) (fun r H141 G142 h => ?_)
        obtain ⟨x143, rfl, h⟩ := h
        change e3_Ev _ _ _ _ 647 [(2, 0), (2, 2), (2, 40), (0, l3)] [(0, x143)] H141 G142 _
        refine e3_K [0, 0] 649 [(2, 0), (2, 2), (2, 40), (0, l3)] [(2, 40)] (H141) (G142) (wZ L xs) (M := tbM0) rfl rfl trivial ?_
        refine e3_call (o := 0) (k := 279) (M2 := tbM279) (f1 := 1) (w1 := 24) (as := [(2, 40)]) (rest := []) (M := tbM0) rfl rfl rfl trivial (Nat.le_of_ble_eq_true rfl) (Nat.le_of_ble_eq_true rfl) (Nat.le_of_ble_eq_true rfl) ?_
        refine e3_mono (sM_nothing L xs _ _ _ h) (fun r H144 G145 h => ?_)
        obtain ⟨x146, rfl, h⟩ := h
        change e3_Ev _ _ _ _ 652 [(2, 0), (2, 2), (2, 40), (0, l3)] [(0, x146)] H144 G145 _
        refine e3_K [0, 0] 983 [(2, 0), (2, 2), (2, 40), (0, l3)] [] (H144) (G145) (wZ L xs) (M := tbM0) rfl rfl trivial ?_
        exact sLaw_law_983 L xs Q (fun l3 H G => wLaw_law_18 L Q nn l3 H G) ih _ _ _ h
      replace h := h.2
      by_cases hc16 : ((e3_and (H 0 l3) 31) : Int) = 16
      · replace h := h.1 hc16
        refine e3_sw (M := tbM0) rfl rfl hc16 rfl ?_
        obtain ⟨o147, o148, o149, o150, h⟩ := h
        refine e3_K [0, 0, 0, 0, 0, 2, 0, 0, 0, 0, 2, 0, 0, 0, 0, 2, 0, 0, 0, 0, 2, 0, 0, 0] 680 [(2, 0), (2, 2), (2, 40), (0, l3)] [(0, 5), (0, l3), (2, 0), (0, (H 0 (e3_w32 (l3 + 4)))), (0, (H 0 (e3_w32 (l3 + 3)))), (0, (H 0 (e3_w32 (l3 + 2)))), (0, (H 0 (e3_w32 (l3 + 1)))), (2, 2)] (H) (G) (wZ L xs) (M := tbM0) rfl rfl ⟨o147, o148, o149, o150, trivial⟩ ?_
        obtain ⟨o151, h⟩ := h
        refine e3_K [0, 2] 682 [(2, 0), (2, 2), (2, 40), (0, l3)] [(0, (H 0 (e3_w32 (l3 + 5)))), (0, (H 0 (e3_w32 (l3 + 4)))), (0, (H 0 (e3_w32 (l3 + 3)))), (0, (H 0 (e3_w32 (l3 + 2)))), (0, (H 0 (e3_w32 (l3 + 1)))), (2, 2)] (H) (G) (wZ L xs) (M := tbM0) rfl rfl ⟨o151, trivial⟩ ?_
        refine e3_call (o := 0) (k := 156) (M2 := tbM156) (f1 := 4) (w1 := 130) (as := [(2, 2), (0, (H 0 (e3_w32 (l3 + 1)))), (0, (H 0 (e3_w32 (l3 + 2)))), (0, (H 0 (e3_w32 (l3 + 3)))), (0, (H 0 (e3_w32 (l3 + 4)))), (0, (H 0 (e3_w32 (l3 + 5))))]) (rest := []) (M := tbM0) rfl rfl rfl trivial (Nat.le_of_ble_eq_true rfl) (Nat.le_of_ble_eq_true rfl) (Nat.le_of_ble_eq_true rfl) ?_
        refine e3_mono (sP_make L xs _ _ _ _ _ _ _ _ h) (fun r H152 G153 h => ?_)
        obtain ⟨x154, rfl, h⟩ := h
        change e3_Ev _ _ _ _ 685 [(2, 0), (2, 2), (2, 40), (0, l3)] [(0, x154)] H152 G153 _
        obtain ⟨o155, o156, o157, o158, h⟩ := h
        refine e3_K [0, 0, 0, 0, 0, 0, 2, 0, 0, 0, 0, 2, 0, 0, 0, 0, 2, 0, 0, 0, 0, 2, 0, 0] 709 [(2, 0), (2, 2), (2, 40), (0, l3)] [(0, l3), (2, 0), (0, (H152 0 (e3_w32 (l3 + 4)))), (0, (H152 0 (e3_w32 (l3 + 3)))), (0, (H152 0 (e3_w32 (l3 + 2)))), (0, (H152 0 (e3_w32 (l3 + 1)))), (2, 40)] (H152) (G153) (wZ L xs) (M := tbM0) rfl rfl ⟨o155, o156, o157, o158, trivial⟩ ?_
        obtain ⟨o159, h⟩ := h
        refine e3_K [0, 0, 2] 712 [(2, 0), (2, 2), (2, 40), (0, l3)] [(0, (H152 0 (e3_w32 (l3 + 5)))), (0, (H152 0 (e3_w32 (l3 + 4)))), (0, (H152 0 (e3_w32 (l3 + 3)))), (0, (H152 0 (e3_w32 (l3 + 2)))), (0, (H152 0 (e3_w32 (l3 + 1)))), (2, 40)] (H152) (G153) (wZ L xs) (M := tbM0) rfl rfl ⟨o159, trivial⟩ ?_
        refine e3_call (o := 0) (k := 280) (M2 := tbM280) (f1 := 2) (w1 := 46) (as := [(2, 40), (0, (H152 0 (e3_w32 (l3 + 1)))), (0, (H152 0 (e3_w32 (l3 + 2)))), (0, (H152 0 (e3_w32 (l3 + 3)))), (0, (H152 0 (e3_w32 (l3 + 4)))), (0, (H152 0 (e3_w32 (l3 + 5))))]) (rest := []) (M := tbM0) rfl rfl rfl trivial (Nat.le_of_ble_eq_true rfl) (Nat.le_of_ble_eq_true rfl) (Nat.le_of_ble_eq_true rfl) ?_
        refine e3_mono (sM_make L xs _ _ _ _ _ _ _ _ h) (fun r H160 G161 h => ?_)
        obtain ⟨x162, rfl, h⟩ := h
        change e3_Ev _ _ _ _ 715 [(2, 0), (2, 2), (2, 40), (0, l3)] [(0, x162)] H160 G161 _
        refine e3_K [0, 0] 983 [(2, 0), (2, 2), (2, 40), (0, l3)] [] (H160) (G161) (wZ L xs) (M := tbM0) rfl rfl trivial ?_
        exact sLaw_law_983 L xs Q (fun l3 H G => wLaw_law_18 L Q nn l3 H G) ih _ _ _ h
      replace h := h.2
      by_cases hc17 : ((e3_and (H 0 l3) 31) : Int) = 17
      · replace h := h.1 hc17
        refine e3_sw (M := tbM0) rfl rfl hc17 rfl ?_
        obtain ⟨o163, o164, h⟩ := h
        refine e3_K [0, 0, 0, 0, 0, 2, 0, 0, 0, 0, 2] 730 [(2, 0), (2, 2), (2, 40), (0, l3)] [(0, (H 0 (e3_w32 (l3 + 2)))), (0, (H 0 (e3_w32 (l3 + 1)))), (2, 2)] (H) (G) (wZ L xs) (M := tbM0) rfl rfl ⟨o163, o164, trivial⟩ ?_
        refine e3_call (o := 0) (k := 162) (M2 := tbM162) (f1 := 4) (w1 := 86) (as := [(2, 2), (0, (H 0 (e3_w32 (l3 + 1)))), (0, (H 0 (e3_w32 (l3 + 2))))]) (rest := []) (M := tbM0) rfl rfl rfl trivial (Nat.le_of_ble_eq_true rfl) (Nat.le_of_ble_eq_true rfl) (Nat.le_of_ble_eq_true rfl) ?_
        refine e3_mono (sP_value L xs _ _ _ _ _ h) (fun r H165 G166 h => ?_)
        obtain ⟨x167, rfl, h⟩ := h
        change e3_Ev _ _ _ _ 733 [(2, 0), (2, 2), (2, 40), (0, l3)] [(0, x167)] H165 G166 _
        obtain ⟨o168, o169, h⟩ := h
        refine e3_K [0, 0, 0, 0, 0, 0, 2, 0, 0, 0, 0, 2] 745 [(2, 0), (2, 2), (2, 40), (0, l3)] [(0, (H165 0 (e3_w32 (l3 + 2)))), (0, (H165 0 (e3_w32 (l3 + 1)))), (2, 40)] (H165) (G166) (wZ L xs) (M := tbM0) rfl rfl ⟨o168, o169, trivial⟩ ?_
        refine e3_call (o := 0) (k := 283) (M2 := tbM283) (f1 := 2) (w1 := 46) (as := [(2, 40), (0, (H165 0 (e3_w32 (l3 + 1)))), (0, (H165 0 (e3_w32 (l3 + 2))))]) (rest := []) (M := tbM0) rfl rfl rfl trivial (Nat.le_of_ble_eq_true rfl) (Nat.le_of_ble_eq_true rfl) (Nat.le_of_ble_eq_true rfl) ?_
        refine e3_mono (sM_value L xs _ _ _ _ _ h) (fun r H170 G171 h => ?_)
        obtain ⟨x172, rfl, h⟩ := h
        change e3_Ev _ _ _ _ 748 [(2, 0), (2, 2), (2, 40), (0, l3)] [(0, x172)] H170 G171 _
        refine e3_K [0, 0] 983 [(2, 0), (2, 2), (2, 40), (0, l3)] [] (H170) (G171) (wZ L xs) (M := tbM0) rfl rfl trivial ?_
        exact sLaw_law_983 L xs Q (fun l3 H G => wLaw_law_18 L Q nn l3 H G) ih _ _ _ h
      replace h := h.2
      by_cases hc18 : ((e3_and (H 0 l3) 31) : Int) = 18
      · replace h := h.1 hc18
        refine e3_sw (M := tbM0) rfl rfl hc18 rfl ?_
        obtain ⟨o173, o174, h⟩ := h
        refine e3_K [0, 0, 0, 0, 0, 2, 0, 0, 0, 0, 2] 763 [(2, 0), (2, 2), (2, 40), (0, l3)] [(0, (H 0 (e3_w32 (l3 + 2)))), (0, (H 0 (e3_w32 (l3 + 1)))), (2, 2)] (H) (G) (wZ L xs) (M := tbM0) rfl rfl ⟨o173, o174, trivial⟩ ?_
        refine e3_call (o := 0) (k := 166) (M2 := tbM166) (f1 := 1) (w1 := 21) (as := [(2, 2), (0, (H 0 (e3_w32 (l3 + 1)))), (0, (H 0 (e3_w32 (l3 + 2))))]) (rest := []) (M := tbM0) rfl rfl rfl trivial (Nat.le_of_ble_eq_true rfl) (Nat.le_of_ble_eq_true rfl) (Nat.le_of_ble_eq_true rfl) ?_
        refine e3_mono (sP_alike L xs _ _ _ _ _ h) (fun r H175 G176 h => ?_)
        obtain ⟨x177, rfl, h⟩ := h
        change e3_Ev _ _ _ _ 766 [(2, 0), (2, 2), (2, 40), (0, l3)] [(0, x177)] H175 G176 _
        obtain ⟨o178, o179, h⟩ := h
        refine e3_K [0, 0, 0, 0, 0, 0, 2, 0, 0, 0, 0, 2] 778 [(2, 0), (2, 2), (2, 40), (0, l3)] [(0, (H175 0 (e3_w32 (l3 + 2)))), (0, (H175 0 (e3_w32 (l3 + 1)))), (2, 40)] (H175) (G176) (wZ L xs) (M := tbM0) rfl rfl ⟨o178, o179, trivial⟩ ?_
        refine e3_call (o := 0) (k := 284) (M2 := tbM284) (f1 := 2) (w1 := 46) (as := [(2, 40), (0, (H175 0 (e3_w32 (l3 + 1)))), (0, (H175 0 (e3_w32 (l3 + 2))))]) (rest := []) (M := tbM0) rfl rfl rfl trivial (Nat.le_of_ble_eq_true rfl) (Nat.le_of_ble_eq_true rfl) (Nat.le_of_ble_eq_true rfl) ?_
        refine e3_mono (sM_alike L xs _ _ _ _ _ h) (fun r H180 G181 h => ?_)
        obtain ⟨x182, rfl, h⟩ := h
        change e3_Ev _ _ _ _ 781 [(2, 0), (2, 2), (2, 40), (0, l3)] [(0, x182)] H180 G181 _
        refine e3_K [0, 0] 983 [(2, 0), (2, 2), (2, 40), (0, l3)] [] (H180) (G181) (wZ L xs) (M := tbM0) rfl rfl trivial ?_
        exact sLaw_law_983 L xs Q (fun l3 H G => wLaw_law_18 L Q nn l3 H G) ih _ _ _ h
      replace h := h.2
      by_cases hc19 : ((e3_and (H 0 l3) 31) : Int) = 19
      · replace h := h.1 hc19
        refine e3_sw (M := tbM0) rfl rfl hc19 rfl ?_
        obtain ⟨o183, o184, o185, o186, h⟩ := h
        refine e3_K [0, 0, 0, 0, 0, 2, 0, 0, 0, 0, 2, 0, 0, 0, 0, 2, 0, 0, 0, 0, 2] 806 [(2, 0), (2, 2), (2, 40), (0, l3)] [(0, (H 0 (e3_w32 (l3 + 4)))), (0, (H 0 (e3_w32 (l3 + 3)))), (0, (H 0 (e3_w32 (l3 + 2)))), (0, (H 0 (e3_w32 (l3 + 1)))), (2, 2)] (H) (G) (wZ L xs) (M := tbM0) rfl rfl ⟨o183, o184, o185, o186, trivial⟩ ?_
        refine e3_call (o := 0) (k := 167) (M2 := tbM167) (f1 := 34) (w1 := 784) (as := [(2, 2), (0, (H 0 (e3_w32 (l3 + 1)))), (0, (H 0 (e3_w32 (l3 + 2)))), (0, (H 0 (e3_w32 (l3 + 3)))), (0, (H 0 (e3_w32 (l3 + 4))))]) (rest := []) (M := tbM0) rfl rfl rfl trivial (Nat.le_of_ble_eq_true rfl) (Nat.le_of_ble_eq_true rfl) (Nat.le_of_ble_eq_true rfl) ?_
        refine e3_mono (sP_sort L xs _ _ _ _ _ _ _ h) (fun r H187 G188 h => ?_)
        obtain ⟨x189, rfl, h⟩ := h
        change e3_Ev _ _ _ _ 809 [(2, 0), (2, 2), (2, 40), (0, l3)] [(0, x189)] H187 G188 _
        obtain ⟨o190, o191, o192, o193, h⟩ := h
        refine e3_K [0, 0, 0, 0, 0, 0, 2, 0, 0, 0, 0, 2, 0, 0, 0, 0, 2, 0, 0, 0, 0, 2] 831 [(2, 0), (2, 2), (2, 40), (0, l3)] [(0, (H187 0 (e3_w32 (l3 + 4)))), (0, (H187 0 (e3_w32 (l3 + 3)))), (0, (H187 0 (e3_w32 (l3 + 2)))), (0, (H187 0 (e3_w32 (l3 + 1)))), (2, 40)] (H187) (G188) (wZ L xs) (M := tbM0) rfl rfl ⟨o190, o191, o192, o193, trivial⟩ ?_
        refine e3_call (o := 0) (k := 285) (M2 := tbM285) (f1 := 5) (w1 := 132) (as := [(2, 40), (0, (H187 0 (e3_w32 (l3 + 1)))), (0, (H187 0 (e3_w32 (l3 + 2)))), (0, (H187 0 (e3_w32 (l3 + 3)))), (0, (H187 0 (e3_w32 (l3 + 4))))]) (rest := []) (M := tbM0) rfl rfl rfl trivial (Nat.le_of_ble_eq_true rfl) (Nat.le_of_ble_eq_true rfl) (Nat.le_of_ble_eq_true rfl) ?_
        refine e3_mono (sM_sort L xs _ _ _ _ _ _ _ h) (fun r H194 G195 h => ?_)
        obtain ⟨x196, rfl, h⟩ := h
        change e3_Ev _ _ _ _ 834 [(2, 0), (2, 2), (2, 40), (0, l3)] [(0, x196)] H194 G195 _
        refine e3_K [0, 0] 983 [(2, 0), (2, 2), (2, 40), (0, l3)] [] (H194) (G195) (wZ L xs) (M := tbM0) rfl rfl trivial ?_
        exact sLaw_law_983 L xs Q (fun l3 H G => wLaw_law_18 L Q nn l3 H G) ih _ _ _ h
      replace h := h.2
      by_cases hc20 : ((e3_and (H 0 l3) 31) : Int) = 20
      · replace h := h.1 hc20
        refine e3_sw (M := tbM0) rfl rfl hc20 rfl ?_
        obtain ⟨o197, o198, o199, o200, h⟩ := h
        refine e3_K [0, 0, 0, 0, 0, 2, 0, 0, 0, 0, 2, 0, 0, 0, 0, 2, 0, 0, 0, 0, 2] 859 [(2, 0), (2, 2), (2, 40), (0, l3)] [(0, (H 0 (e3_w32 (l3 + 4)))), (0, (H 0 (e3_w32 (l3 + 3)))), (0, (H 0 (e3_w32 (l3 + 2)))), (0, (H 0 (e3_w32 (l3 + 1)))), (2, 2)] (H) (G) (wZ L xs) (M := tbM0) rfl rfl ⟨o197, o198, o199, o200, trivial⟩ ?_
        refine e3_call (o := 0) (k := 191) (M2 := tbM191) (f1 := 34) (w1 := 784) (as := [(2, 2), (0, (H 0 (e3_w32 (l3 + 1)))), (0, (H 0 (e3_w32 (l3 + 2)))), (0, (H 0 (e3_w32 (l3 + 3)))), (0, (H 0 (e3_w32 (l3 + 4))))]) (rest := []) (M := tbM0) rfl rfl rfl trivial (Nat.le_of_ble_eq_true rfl) (Nat.le_of_ble_eq_true rfl) (Nat.le_of_ble_eq_true rfl) ?_
        refine e3_mono (sP_plain L xs _ _ _ _ _ _ _ h) (fun r H201 G202 h => ?_)
        obtain ⟨x203, rfl, h⟩ := h
        change e3_Ev _ _ _ _ 862 [(2, 0), (2, 2), (2, 40), (0, l3)] [(0, x203)] H201 G202 _
        obtain ⟨o204, o205, o206, o207, h⟩ := h
        refine e3_K [0, 0, 0, 0, 0, 0, 2, 0, 0, 0, 0, 2, 0, 0, 0, 0, 2, 0, 0, 0, 0, 2] 884 [(2, 0), (2, 2), (2, 40), (0, l3)] [(0, (H201 0 (e3_w32 (l3 + 4)))), (0, (H201 0 (e3_w32 (l3 + 3)))), (0, (H201 0 (e3_w32 (l3 + 2)))), (0, (H201 0 (e3_w32 (l3 + 1)))), (2, 40)] (H201) (G202) (wZ L xs) (M := tbM0) rfl rfl ⟨o204, o205, o206, o207, trivial⟩ ?_
        refine e3_call (o := 0) (k := 297) (M2 := tbM297) (f1 := 5) (w1 := 132) (as := [(2, 40), (0, (H201 0 (e3_w32 (l3 + 1)))), (0, (H201 0 (e3_w32 (l3 + 2)))), (0, (H201 0 (e3_w32 (l3 + 3)))), (0, (H201 0 (e3_w32 (l3 + 4))))]) (rest := []) (M := tbM0) rfl rfl rfl trivial (Nat.le_of_ble_eq_true rfl) (Nat.le_of_ble_eq_true rfl) (Nat.le_of_ble_eq_true rfl) ?_
        refine e3_mono (sM_plain L xs _ _ _ _ _ _ _ h) (fun r H208 G209 h => ?_)
        obtain ⟨x210, rfl, h⟩ := h
        change e3_Ev _ _ _ _ 887 [(2, 0), (2, 2), (2, 40), (0, l3)] [(0, x210)] H208 G209 _
        refine e3_K [0, 0] 983 [(2, 0), (2, 2), (2, 40), (0, l3)] [] (H208) (G209) (wZ L xs) (M := tbM0) rfl rfl trivial ?_
        exact sLaw_law_983 L xs Q (fun l3 H G => wLaw_law_18 L Q nn l3 H G) ih _ _ _ h
      replace h := h.2
      by_cases hc21 : ((e3_and (H 0 l3) 31) : Int) = 21
      · replace h := h.1 hc21
        refine e3_sw (M := tbM0) rfl rfl hc21 rfl ?_
        obtain ⟨o211, h⟩ := h
        refine e3_K [0, 0, 0, 0, 0, 2] 897 [(2, 0), (2, 2), (2, 40), (0, l3)] [(0, (H 0 (e3_w32 (l3 + 1)))), (2, 2)] (H) (G) (wZ L xs) (M := tbM0) rfl rfl ⟨o211, trivial⟩ ?_
        refine e3_call (o := 0) (k := 192) (M2 := tbM192) (f1 := 0) (w1 := 0) (as := [(2, 2), (0, (H 0 (e3_w32 (l3 + 1))))]) (rest := []) (M := tbM0) rfl rfl rfl trivial (Nat.le_of_ble_eq_true rfl) (Nat.le_of_ble_eq_true rfl) (Nat.le_of_ble_eq_true rfl) ?_
        refine e3_mono (sP_told L xs _ _ _ _ h) (fun r H212 G213 h => ?_)
        obtain ⟨x214, rfl, h⟩ := h
        change e3_Ev _ _ _ _ 900 [(2, 0), (2, 2), (2, 40), (0, l3)] [(0, x214)] H212 G213 _
        obtain ⟨o215, h⟩ := h
        refine e3_K [0, 0, 0, 0, 0, 0, 2] 907 [(2, 0), (2, 2), (2, 40), (0, l3)] [(0, (H212 0 (e3_w32 (l3 + 1)))), (2, 40)] (H212) (G213) (wZ L xs) (M := tbM0) rfl rfl ⟨o215, trivial⟩ ?_
        refine e3_call (o := 0) (k := 298) (M2 := tbM298) (f1 := 1) (w1 := 25) (as := [(2, 40), (0, (H212 0 (e3_w32 (l3 + 1))))]) (rest := []) (M := tbM0) rfl rfl rfl trivial (Nat.le_of_ble_eq_true rfl) (Nat.le_of_ble_eq_true rfl) (Nat.le_of_ble_eq_true rfl) ?_
        refine e3_mono (sM_told L xs _ _ _ _ h) (fun r H216 G217 h => ?_)
        obtain ⟨x218, rfl, h⟩ := h
        change e3_Ev _ _ _ _ 910 [(2, 0), (2, 2), (2, 40), (0, l3)] [(0, x218)] H216 G217 _
        refine e3_K [0, 0] 983 [(2, 0), (2, 2), (2, 40), (0, l3)] [] (H216) (G217) (wZ L xs) (M := tbM0) rfl rfl trivial ?_
        exact sLaw_law_983 L xs Q (fun l3 H G => wLaw_law_18 L Q nn l3 H G) ih _ _ _ h
      replace h := h.2
      by_cases hc22 : ((e3_and (H 0 l3) 31) : Int) = 22
      · replace h := h.1 hc22
        refine e3_sw (M := tbM0) rfl rfl hc22 rfl ?_
        obtain ⟨o219, h⟩ := h
        refine e3_K [0, 0, 0, 0, 0, 2] 920 [(2, 0), (2, 2), (2, 40), (0, l3)] [(0, (H 0 (e3_w32 (l3 + 1)))), (2, 2)] (H) (G) (wZ L xs) (M := tbM0) rfl rfl ⟨o219, trivial⟩ ?_
        refine e3_call (o := 0) (k := 193) (M2 := tbM193) (f1 := 0) (w1 := 0) (as := [(2, 2), (0, (H 0 (e3_w32 (l3 + 1))))]) (rest := []) (M := tbM0) rfl rfl rfl trivial (Nat.le_of_ble_eq_true rfl) (Nat.le_of_ble_eq_true rfl) (Nat.le_of_ble_eq_true rfl) ?_
        refine e3_mono (sP_guard L xs _ _ _ _ h) (fun r H220 G221 h => ?_)
        obtain ⟨x222, rfl, h⟩ := h
        change e3_Ev _ _ _ _ 923 [(2, 0), (2, 2), (2, 40), (0, l3)] [(0, x222)] H220 G221 _
        obtain ⟨o223, h⟩ := h
        refine e3_K [0, 0, 0, 0, 0, 0, 2] 930 [(2, 0), (2, 2), (2, 40), (0, l3)] [(0, (H220 0 (e3_w32 (l3 + 1)))), (2, 40)] (H220) (G221) (wZ L xs) (M := tbM0) rfl rfl ⟨o223, trivial⟩ ?_
        refine e3_call (o := 0) (k := 299) (M2 := tbM299) (f1 := 1) (w1 := 25) (as := [(2, 40), (0, (H220 0 (e3_w32 (l3 + 1))))]) (rest := []) (M := tbM0) rfl rfl rfl trivial (Nat.le_of_ble_eq_true rfl) (Nat.le_of_ble_eq_true rfl) (Nat.le_of_ble_eq_true rfl) ?_
        refine e3_mono (sM_guard L xs _ _ _ _ h) (fun r H224 G225 h => ?_)
        obtain ⟨x226, rfl, h⟩ := h
        change e3_Ev _ _ _ _ 933 [(2, 0), (2, 2), (2, 40), (0, l3)] [(0, x226)] H224 G225 _
        refine e3_K [0, 0] 983 [(2, 0), (2, 2), (2, 40), (0, l3)] [] (H224) (G225) (wZ L xs) (M := tbM0) rfl rfl trivial ?_
        exact sLaw_law_983 L xs Q (fun l3 H G => wLaw_law_18 L Q nn l3 H G) ih _ _ _ h
      replace h := h.2
      by_cases hc23 : ((e3_and (H 0 l3) 31) : Int) = 23
      · replace h := h.1 hc23
        refine e3_sw (M := tbM0) rfl rfl hc23 rfl ?_
        obtain ⟨o227, h⟩ := h
        refine e3_K [0, 0, 0, 0, 0, 2] 943 [(2, 0), (2, 2), (2, 40), (0, l3)] [(0, (H 0 (e3_w32 (l3 + 1)))), (2, 2)] (H) (G) (wZ L xs) (M := tbM0) rfl rfl ⟨o227, trivial⟩ ?_
        refine e3_call (o := 0) (k := 194) (M2 := tbM194) (f1 := 0) (w1 := 0) (as := [(2, 2), (0, (H 0 (e3_w32 (l3 + 1))))]) (rest := []) (M := tbM0) rfl rfl rfl trivial (Nat.le_of_ble_eq_true rfl) (Nat.le_of_ble_eq_true rfl) (Nat.le_of_ble_eq_true rfl) ?_
        refine e3_mono (sP_bound L xs _ _ _ _ h) (fun r H228 G229 h => ?_)
        obtain ⟨x230, rfl, h⟩ := h
        change e3_Ev _ _ _ _ 946 [(2, 0), (2, 2), (2, 40), (0, l3)] [(0, x230)] H228 G229 _
        obtain ⟨o231, h⟩ := h
        refine e3_K [0, 0, 0, 0, 0, 0, 2] 953 [(2, 0), (2, 2), (2, 40), (0, l3)] [(0, (H228 0 (e3_w32 (l3 + 1)))), (2, 40)] (H228) (G229) (wZ L xs) (M := tbM0) rfl rfl ⟨o231, trivial⟩ ?_
        refine e3_call (o := 0) (k := 300) (M2 := tbM300) (f1 := 1) (w1 := 25) (as := [(2, 40), (0, (H228 0 (e3_w32 (l3 + 1))))]) (rest := []) (M := tbM0) rfl rfl rfl trivial (Nat.le_of_ble_eq_true rfl) (Nat.le_of_ble_eq_true rfl) (Nat.le_of_ble_eq_true rfl) ?_
        refine e3_mono (sM_bound L xs _ _ _ _ h) (fun r H232 G233 h => ?_)
        obtain ⟨x234, rfl, h⟩ := h
        change e3_Ev _ _ _ _ 956 [(2, 0), (2, 2), (2, 40), (0, l3)] [(0, x234)] H232 G233 _
        refine e3_K [0, 0] 983 [(2, 0), (2, 2), (2, 40), (0, l3)] [] (H232) (G233) (wZ L xs) (M := tbM0) rfl rfl trivial ?_
        exact sLaw_law_983 L xs Q (fun l3 H G => wLaw_law_18 L Q nn l3 H G) ih _ _ _ h
      replace h := h.2
      by_cases hc24 : ((e3_and (H 0 l3) 31) : Int) = 24
      · replace h := h.1 hc24
        refine e3_sw (M := tbM0) rfl rfl hc24 rfl ?_
        obtain ⟨o235, h⟩ := h
        refine e3_K [0, 0, 0, 0, 0, 2] 966 [(2, 0), (2, 2), (2, 40), (0, l3)] [(0, (H 0 (e3_w32 (l3 + 1)))), (2, 2)] (H) (G) (wZ L xs) (M := tbM0) rfl rfl ⟨o235, trivial⟩ ?_
        refine e3_call (o := 0) (k := 195) (M2 := tbM195) (f1 := 0) (w1 := 0) (as := [(2, 2), (0, (H 0 (e3_w32 (l3 + 1))))]) (rest := []) (M := tbM0) rfl rfl rfl trivial (Nat.le_of_ble_eq_true rfl) (Nat.le_of_ble_eq_true rfl) (Nat.le_of_ble_eq_true rfl) ?_
        refine e3_mono (sP_count L xs _ _ _ _ h) (fun r H236 G237 h => ?_)
        obtain ⟨x238, rfl, h⟩ := h
        change e3_Ev _ _ _ _ 969 [(2, 0), (2, 2), (2, 40), (0, l3)] [(0, x238)] H236 G237 _
        obtain ⟨o239, h⟩ := h
        refine e3_K [0, 0, 0, 0, 0, 2] 975 [(2, 0), (2, 2), (2, 40), (0, l3)] [(0, (H236 0 (e3_w32 (l3 + 1)))), (2, 40), (0, x238)] (H236) (G237) (wZ L xs) (M := tbM0) rfl rfl ⟨o239, trivial⟩ ?_
        refine e3_call (o := 0) (k := 301) (M2 := tbM301) (f1 := 0) (w1 := 0) (as := [(2, 40), (0, (H236 0 (e3_w32 (l3 + 1))))]) (rest := [(0, x238)]) (M := tbM0) rfl rfl rfl trivial (Nat.le_of_ble_eq_true rfl) (Nat.le_of_ble_eq_true rfl) (Nat.le_of_ble_eq_true rfl) ?_
        refine e3_mono (sM_count L xs _ _ _ _ h) (fun r H240 G241 h => ?_)
        obtain ⟨x242, rfl, h⟩ := h
        change e3_Ev _ _ _ _ 978 [(2, 0), (2, 2), (2, 40), (0, l3)] [(0, x242), (0, x238)] H240 G241 _
        refine e3_br (M := tbM0) rfl rfl rfl Iff.rfl (fun hc => ?_) (fun hc => ?_)
        · replace h := h.1 hc
          exact sLaw_law_983 L xs Q (fun l3 H G => wLaw_law_18 L Q nn l3 H G) ih _ _ _ h
        · replace h := h.2 hc
          refine e3_K [0] 982 [(2, 0), (2, 2), (2, 40), (0, l3)] [(0, 0)] (H240) (G241) (wZ L xs) (M := tbM0) rfl rfl trivial ?_
          exact e3_retb (M := tbM0) rfl rfl rfl (Or.inl rfl) ⟨_, rfl, h⟩
      replace h := h.2
      replace h := h (by omega)
      refine e3_sw (M := tbM0) rfl rfl rfl ((e3_swdt (by omega)).trans rfl) ?_
      exact sLaw_law_983 L xs Q (fun l3 H G => wLaw_law_18 L Q nn l3 H G) ih _ _ _ h
