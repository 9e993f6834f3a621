/-- LetterPost.sort(IIII)I -/
def wP_sort_28 (Q : Int → e3_H → e3_G → Prop) (s0 : Int) (H : e3_H) (G : e3_G) : Prop :=
  Q s0 H G
def wP_sort (Q : Int → e3_H → e3_G → Prop) (l1 : Int) (l2 : Int) (l3 : Int) (l4 : Int) (H : e3_H) (G : e3_G) : Prop :=
  (wS_takes (fun x3 H1 G2 => (((x3 : Int) = 0 → (wP_sort_28 Q (-1) H1 G2)) ∧ (¬ ((x3 : Int) = 0) → (wS_run (fun x6 H4 G5 => (wP_sort_28 Q x6 H4 G5)) l1 1 H1 G2)))) l1 l2 l3 l4 H G)
set_option maxRecDepth 100000 in
set_option maxHeartbeats 4000000 in
theorem sP_sort_28 (L : Nat) (xs : Nat → Int32) (Q : Int → e3_H → e3_G → Prop) (s0 : Int) (H : e3_H) (G : e3_G) (h : wP_sort_28 Q s0 H G) : e3_Ev (wB L xs) 34 784 167 28 [(3, 0), (3, 0), (3, 0), (3, 0), (3, 0)] [(0, s0)] H G (e3_q0 Q) := by
  unfold wP_sort_28 at h
  exact e3_reti (M := tbM167) rfl rfl rfl ⟨_, rfl, h⟩
set_option maxRecDepth 100000 in
set_option maxHeartbeats 4000000 in
theorem sP_sort (L : Nat) (xs : Nat → Int32) (Q : Int → e3_H → e3_G → Prop) (l1 : Int) (l2 : Int) (l3 : Int) (l4 : Int) (H : e3_H) (G : e3_G) (h : wP_sort Q l1 l2 l3 l4 H G) : e3_Ev (wB L xs) 34 784 167 0 [(2, 2), (0, l1), (0, l2), (0, l3), (0, l4)] [] H G (e3_q0 Q) := by
  unfold wP_sort at h
  refine e3_K [0, 4, 0, 0, 0, 0] 9 [(2, 2), (0, l1), (0, l2), (0, l3), (0, l4)] [(0, l4), (0, l3), (0, l2), (0, l1), (2, 34)] (H) (G) (wZ L xs) (M := tbM167) rfl rfl ⟨trivial, trivial⟩ ?_
  refine e3_call (o := 0) (k := 168) (M2 := tbM168) (f1 := 2) (w1 := 46) (as := [(2, 34), (0, l1), (0, l2), (0, l3), (0, l4)]) (rest := []) (M := tbM167) rfl rfl rfl trivial (Nat.le_of_ble_eq_true rfl) (Nat.le_of_ble_eq_true rfl) (Nat.le_of_ble_eq_true rfl) ?_
  refine e3_mono (sS_takes L xs _ _ _ _ _ _ _ h) (fun r H1 G2 h => ?_)
  obtain ⟨x3, rfl, h⟩ := h
  change e3_Ev _ _ _ _ 12 [(2, 2), (0, l1), (0, l2), (0, l3), (0, l4)] [(0, x3)] H1 G2 _
  refine e3_br (M := tbM167) rfl rfl rfl Iff.rfl (fun hc => ?_) (fun hc => ?_)
  · replace h := h.1 hc
    refine e3_K [0] 28 [(2, 2), (0, l1), (0, l2), (0, l3), (0, l4)] [(0, (-1))] (H1) (G2) (wZ L xs) (M := tbM167) rfl rfl trivial ?_
    refine e3_fgt [false, false, false, false, false] ?_
    exact sP_sort_28 L xs Q _ _ _ h
  · replace h := h.2 hc
    refine e3_K [0, 4, 0, 0] 21 [(2, 2), (0, l1), (0, l2), (0, l3), (0, l4)] [(0, 1), (0, l1), (2, 34)] (H1) (G2) (wZ L xs) (M := tbM167) rfl rfl ⟨trivial, trivial⟩ ?_
    refine e3_call (o := 0) (k := 169) (M2 := tbM169) (f1 := 33) (w1 := 758) (as := [(2, 34), (0, l1), (0, 1)]) (rest := []) (M := tbM167) rfl rfl rfl trivial (Nat.le_of_ble_eq_true rfl) (Nat.le_of_ble_eq_true rfl) (Nat.le_of_ble_eq_true rfl) ?_
    refine e3_mono (sS_run L xs _ _ _ _ _ h) (fun r H4 G5 h => ?_)
    obtain ⟨x6, rfl, h⟩ := h
    change e3_Ev _ _ _ _ 24 [(2, 2), (0, l1), (0, l2), (0, l3), (0, l4)] [(0, x6)] H4 G5 _
    refine e3_K [0] 28 [(2, 2), (0, l1), (0, l2), (0, l3), (0, l4)] [(0, x6)] (H4) (G5) (wZ L xs) (M := tbM167) rfl rfl trivial ?_
    refine e3_fgt [false, false, false, false, false] ?_
    exact sP_sort_28 L xs Q _ _ _ h
/-- LetterPost.plain(IIII)I -/
def wP_plain_28 (Q : Int → e3_H → e3_G → Prop) (s0 : Int) (H : e3_H) (G : e3_G) : Prop :=
  Q s0 H G
def wP_plain (Q : Int → e3_H → e3_G → Prop) (l1 : Int) (l2 : Int) (l3 : Int) (l4 : Int) (H : e3_H) (G : e3_G) : Prop :=
  (wS_takes (fun x3 H1 G2 => (((x3 : Int) = 0 → (wP_plain_28 Q (-1) H1 G2)) ∧ (¬ ((x3 : Int) = 0) → (wS_run (fun x6 H4 G5 => (wP_plain_28 Q x6 H4 G5)) l1 0 H1 G2)))) l1 l2 l3 l4 H G)
set_option maxRecDepth 100000 in
set_option maxHeartbeats 4000000 in
theorem sP_plain_28 (L : Nat) (xs : Nat → Int32) (Q : Int → e3_H → e3_G → Prop) (s0 : Int) (H : e3_H) (G : e3_G) (h : wP_plain_28 Q s0 H G) : e3_Ev (wB L xs) 34 784 191 28 [(3, 0), (3, 0), (3, 0), (3, 0), (3, 0)] [(0, s0)] H G (e3_q0 Q) := by
  unfold wP_plain_28 at h
  exact e3_reti (M := tbM191) rfl rfl rfl ⟨_, rfl, h⟩
set_option maxRecDepth 100000 in
set_option maxHeartbeats 4000000 in
theorem sP_plain (L : Nat) (xs : Nat → Int32) (Q : Int → e3_H → e3_G → Prop) (l1 : Int) (l2 : Int) (l3 : Int) (l4 : Int) (H : e3_H) (G : e3_G) (h : wP_plain Q l1 l2 l3 l4 H G) : e3_Ev (wB L xs) 34 784 191 0 [(2, 2), (0, l1), (0, l2), (0, l3), (0, l4)] [] H G (e3_q0 Q) := by
  unfold wP_plain at h
  refine e3_K [0, 4, 0, 0, 0, 0] 9 [(2, 2), (0, l1), (0, l2), (0, l3), (0, l4)] [(0, l4), (0, l3), (0, l2), (0, l1), (2, 34)] (H) (G) (wZ L xs) (M := tbM191) rfl rfl ⟨trivial, trivial⟩ ?_
  refine e3_call (o := 0) (k := 168) (M2 := tbM168) (f1 := 2) (w1 := 46) (as := [(2, 34), (0, l1), (0, l2), (0, l3), (0, l4)]) (rest := []) (M := tbM191) rfl rfl rfl trivial (Nat.le_of_ble_eq_true rfl) (Nat.le_of_ble_eq_true rfl) (Nat.le_of_ble_eq_true rfl) ?_
  refine e3_mono (sS_takes L xs _ _ _ _ _ _ _ h) (fun r H1 G2 h => ?_)
  obtain ⟨x3, rfl, h⟩ := h
  change e3_Ev _ _ _ _ 12 [(2, 2), (0, l1), (0, l2), (0, l3), (0, l4)] [(0, x3)] H1 G2 _
  refine e3_br (M := tbM191) rfl rfl rfl Iff.rfl (fun hc => ?_) (fun hc => ?_)
  · replace h := h.1 hc
    refine e3_K [0] 28 [(2, 2), (0, l1), (0, l2), (0, l3), (0, l4)] [(0, (-1))] (H1) (G2) (wZ L xs) (M := tbM191) rfl rfl trivial ?_
    refine e3_fgt [false, false, false, false, false] ?_
    exact sP_plain_28 L xs Q _ _ _ h
  · replace h := h.2 hc
    refine e3_K [0, 4, 0, 0] 21 [(2, 2), (0, l1), (0, l2), (0, l3), (0, l4)] [(0, 0), (0, l1), (2, 34)] (H1) (G2) (wZ L xs) (M := tbM191) rfl rfl ⟨trivial, trivial⟩ ?_
    refine e3_call (o := 0) (k := 169) (M2 := tbM169) (f1 := 33) (w1 := 758) (as := [(2, 34), (0, l1), (0, 0)]) (rest := []) (M := tbM191) rfl rfl rfl trivial (Nat.le_of_ble_eq_true rfl) (Nat.le_of_ble_eq_true rfl) (Nat.le_of_ble_eq_true rfl) ?_
    refine e3_mono (sS_run L xs _ _ _ _ _ h) (fun r H4 G5 h => ?_)
    obtain ⟨x6, rfl, h⟩ := h
    change e3_Ev _ _ _ _ 24 [(2, 2), (0, l1), (0, l2), (0, l3), (0, l4)] [(0, x6)] H4 G5 _
    refine e3_K [0] 28 [(2, 2), (0, l1), (0, l2), (0, l3), (0, l4)] [(0, x6)] (H4) (G5) (wZ L xs) (M := tbM191) rfl rfl trivial ?_
    refine e3_fgt [false, false, false, false, false] ?_
    exact sP_plain_28 L xs Q _ _ _ h
/-- LetterPost.told(I)I -/
def wP_told_23 (Q : Int → e3_H → e3_G → Prop) (s0 : Int) (H : e3_H) (G : e3_G) : Prop :=
  Q s0 H G
def wP_told_10 (Q : Int → e3_H → e3_G → Prop)  (H : e3_H) (G : e3_G) : Prop :=
  (wP_told_23 Q (-1) H G)
def wP_told (Q : Int → e3_H → e3_G → Prop) (l1 : Int) (H : e3_H) (G : e3_G) : Prop :=
  (((l1 : Int) < 0 → (wP_told_10 Q H G)) ∧ (¬ ((l1 : Int) < 0) → (((l1 : Int) < 7 → ((0 : Int) ≤ l1 ∧ (l1 : Int) < 7) ∧ (wP_told_23 Q (H 37 l1) H G)) ∧ (¬ ((l1 : Int) < 7) → (wP_told_10 Q H G)))))
set_option maxRecDepth 100000 in
set_option maxHeartbeats 4000000 in
theorem sP_told_23 (L : Nat) (xs : Nat → Int32) (Q : Int → e3_H → e3_G → Prop) (s0 : Int) (H : e3_H) (G : e3_G) (h : wP_told_23 Q s0 H G) : e3_Ev (wB L xs) 0 0 192 23 [(3, 0), (3, 0)] [(0, s0)] H G (e3_q0 Q) := by
  unfold wP_told_23 at h
  exact e3_reti (M := tbM192) rfl rfl rfl ⟨_, rfl, h⟩
set_option maxRecDepth 100000 in
set_option maxHeartbeats 4000000 in
theorem sP_told_10 (L : Nat) (xs : Nat → Int32) (Q : Int → e3_H → e3_G → Prop)  (H : e3_H) (G : e3_G) (h : wP_told_10 Q  H G) : e3_Ev (wB L xs) 0 0 192 10 [(3, 0), (3, 0)] [] H G (e3_q0 Q) := by
  unfold wP_told_10 at h
  refine e3_K [0, 0] 23 [(3, 0), (3, 0)] [(0, (-1))] (H) (G) (wZ L xs) (M := tbM192) rfl rfl trivial ?_
  exact sP_told_23 L xs Q _ _ _ h
set_option maxRecDepth 100000 in
set_option maxHeartbeats 4000000 in
theorem sP_told (L : Nat) (xs : Nat → Int32) (Q : Int → e3_H → e3_G → Prop) (l1 : Int) (H : e3_H) (G : e3_G) (h : wP_told Q l1 H G) : e3_Ev (wB L xs) 0 0 192 0 [(2, 2), (0, l1)] [] H G (e3_q0 Q) := by
  unfold wP_told at h
  refine e3_K [0] 1 [(2, 2), (0, l1)] [(0, l1)] (H) (G) (wZ L xs) (M := tbM192) rfl rfl trivial ?_
  refine e3_br (M := tbM192) rfl rfl rfl Iff.rfl (fun hc => ?_) (fun hc => ?_)
  · replace h := h.1 hc
    refine e3_fgt [false, false] ?_
    exact sP_told_10 L xs Q _ _ h
  · replace h := h.2 hc
    refine e3_K [0, 0] 7 [(2, 2), (0, l1)] [(0, 7), (0, l1)] (H) (G) (wZ L xs) (M := tbM192) rfl rfl trivial ?_
    refine e3_br (M := tbM192) rfl rfl rfl Iff.rfl (fun hc => ?_) (fun hc => ?_)
    · replace h := h.1 hc
      obtain ⟨o1, h⟩ := h
      refine e3_K [0, 4, 4, 0, 2] 23 [(2, 2), (0, l1)] [(0, (H 37 l1))] (H) (G) (wZ L xs) (M := tbM192) rfl rfl ⟨trivial, trivial, o1, trivial⟩ ?_
      refine e3_fgt [false, false] ?_
      exact sP_told_23 L xs Q _ _ _ h
    · replace h := h.2 hc
      refine e3_fgt [false, false] ?_
      exact sP_told_10 L xs Q _ _ h
/-- LetterPost.guard(I)I -/
def wP_guard_29 (Q : Int → e3_H → e3_G → Prop) (s0 : Int) (H : e3_H) (G : e3_G) : Prop :=
  Q s0 H G
def wP_guard_15 (Q : Int → e3_H → e3_G → Prop)  (H : e3_H) (G : e3_G) : Prop :=
  (wP_guard_29 Q (-4) H G)
def wP_guard (Q : Int → e3_H → e3_G → Prop) (l1 : Int) (H : e3_H) (G : e3_G) : Prop :=
  (((l1 : Int) < 0 → (wP_guard_15 Q H G)) ∧ (¬ ((l1 : Int) < 0) → (((l1 : Int) < (H 34 9) → ((0 : Int) ≤ l1 ∧ (l1 : Int) < 32) ∧ (wP_guard_29 Q (H 38 l1) H G)) ∧ (¬ ((l1 : Int) < (H 34 9)) → (wP_guard_15 Q H G)))))
set_option maxRecDepth 100000 in
set_option maxHeartbeats 4000000 in
theorem sP_guard_29 (L : Nat) (xs : Nat → Int32) (Q : Int → e3_H → e3_G → Prop) (s0 : Int) (H : e3_H) (G : e3_G) (h : wP_guard_29 Q s0 H G) : e3_Ev (wB L xs) 0 0 193 29 [(3, 0), (3, 0)] [(0, s0)] H G (e3_q0 Q) := by
  unfold wP_guard_29 at h
  exact e3_reti (M := tbM193) rfl rfl rfl ⟨_, rfl, h⟩
set_option maxRecDepth 100000 in
set_option maxHeartbeats 4000000 in
theorem sP_guard_15 (L : Nat) (xs : Nat → Int32) (Q : Int → e3_H → e3_G → Prop)  (H : e3_H) (G : e3_G) (h : wP_guard_15 Q  H G) : e3_Ev (wB L xs) 0 0 193 15 [(3, 0), (3, 0)] [] H G (e3_q0 Q) := by
  unfold wP_guard_15 at h
  refine e3_K [0, 0] 29 [(3, 0), (3, 0)] [(0, (-4))] (H) (G) (wZ L xs) (M := tbM193) rfl rfl trivial ?_
  exact sP_guard_29 L xs Q _ _ _ h
set_option maxRecDepth 100000 in
set_option maxHeartbeats 4000000 in
theorem sP_guard (L : Nat) (xs : Nat → Int32) (Q : Int → e3_H → e3_G → Prop) (l1 : Int) (H : e3_H) (G : e3_G) (h : wP_guard Q l1 H G) : e3_Ev (wB L xs) 0 0 193 0 [(2, 2), (0, l1)] [] H G (e3_q0 Q) := by
  unfold wP_guard at h
  refine e3_K [0] 1 [(2, 2), (0, l1)] [(0, l1)] (H) (G) (wZ L xs) (M := tbM193) rfl rfl trivial ?_
  refine e3_br (M := tbM193) rfl rfl rfl Iff.rfl (fun hc => ?_) (fun hc => ?_)
  · replace h := h.1 hc
    refine e3_fgt [false, false] ?_
    exact sP_guard_15 L xs Q _ _ h
  · replace h := h.2 hc
    refine e3_K [0, 0, 4, 2] 12 [(2, 2), (0, l1)] [(0, (H 34 9)), (0, l1)] (H) (G) (wZ L xs) (M := tbM193) rfl rfl ⟨trivial, trivial, trivial⟩ ?_
    refine e3_br (M := tbM193) rfl rfl rfl Iff.rfl (fun hc => ?_) (fun hc => ?_)
    · replace h := h.1 hc
      obtain ⟨o1, h⟩ := h
      refine e3_K [0, 4, 4, 0, 2] 29 [(2, 2), (0, l1)] [(0, (H 38 l1))] (H) (G) (wZ L xs) (M := tbM193) rfl rfl ⟨trivial, trivial, o1, trivial⟩ ?_
      refine e3_fgt [false, false] ?_
      exact sP_guard_29 L xs Q _ _ _ h
    · replace h := h.2 hc
      refine e3_fgt [false, false] ?_
      exact sP_guard_15 L xs Q _ _ h
/-- LetterPost.bound(I)I -/
def wP_bound_29 (Q : Int → e3_H → e3_G → Prop) (s0 : Int) (H : e3_H) (G : e3_G) : Prop :=
  Q s0 H G
def wP_bound_15 (Q : Int → e3_H → e3_G → Prop)  (H : e3_H) (G : e3_G) : Prop :=
  (wP_bound_29 Q (-4) H G)
def wP_bound (Q : Int → e3_H → e3_G → Prop) (l1 : Int) (H : e3_H) (G : e3_G) : Prop :=
  (((l1 : Int) < 0 → (wP_bound_15 Q H G)) ∧ (¬ ((l1 : Int) < 0) → (((l1 : Int) < (H 34 11) → ((0 : Int) ≤ l1 ∧ (l1 : Int) < 8) ∧ (wP_bound_29 Q (H 39 l1) H G)) ∧ (¬ ((l1 : Int) < (H 34 11)) → (wP_bound_15 Q H G)))))
set_option maxRecDepth 100000 in
set_option maxHeartbeats 4000000 in
theorem sP_bound_29 (L : Nat) (xs : Nat → Int32) (Q : Int → e3_H → e3_G → Prop) (s0 : Int) (H : e3_H) (G : e3_G) (h : wP_bound_29 Q s0 H G) : e3_Ev (wB L xs) 0 0 194 29 [(3, 0), (3, 0)] [(0, s0)] H G (e3_q0 Q) := by
  unfold wP_bound_29 at h
  exact e3_reti (M := tbM194) rfl rfl rfl ⟨_, rfl, h⟩
set_option maxRecDepth 100000 in
set_option maxHeartbeats 4000000 in
theorem sP_bound_15 (L : Nat) (xs : Nat → Int32) (Q : Int → e3_H → e3_G → Prop)  (H : e3_H) (G : e3_G) (h : wP_bound_15 Q  H G) : e3_Ev (wB L xs) 0 0 194 15 [(3, 0), (3, 0)] [] H G (e3_q0 Q) := by
  unfold wP_bound_15 at h
  refine e3_K [0, 0] 29 [(3, 0), (3, 0)] [(0, (-4))] (H) (G) (wZ L xs) (M := tbM194) rfl rfl trivial ?_
  exact sP_bound_29 L xs Q _ _ _ h
set_option maxRecDepth 100000 in
set_option maxHeartbeats 4000000 in
theorem sP_bound (L : Nat) (xs : Nat → Int32) (Q : Int → e3_H → e3_G → Prop) (l1 : Int) (H : e3_H) (G : e3_G) (h : wP_bound Q l1 H G) : e3_Ev (wB L xs) 0 0 194 0 [(2, 2), (0, l1)] [] H G (e3_q0 Q) := by
  unfold wP_bound at h
  refine e3_K [0] 1 [(2, 2), (0, l1)] [(0, l1)] (H) (G) (wZ L xs) (M := tbM194) rfl rfl trivial ?_
  refine e3_br (M := tbM194) rfl rfl rfl Iff.rfl (fun hc => ?_) (fun hc => ?_)
  · replace h := h.1 hc
    refine e3_fgt [false, false] ?_
    exact sP_bound_15 L xs Q _ _ h
  · replace h := h.2 hc
    refine e3_K [0, 0, 4, 2] 12 [(2, 2), (0, l1)] [(0, (H 34 11)), (0, l1)] (H) (G) (wZ L xs) (M := tbM194) rfl rfl ⟨trivial, trivial, trivial⟩ ?_
    refine e3_br (M := tbM194) rfl rfl rfl Iff.rfl (fun hc => ?_) (fun hc => ?_)
    · replace h := h.1 hc
      obtain ⟨o1, h⟩ := h
      refine e3_K [0, 4, 4, 0, 2] 29 [(2, 2), (0, l1)] [(0, (H 39 l1))] (H) (G) (wZ L xs) (M := tbM194) rfl rfl ⟨trivial, trivial, o1, trivial⟩ ?_
      refine e3_fgt [false, false] ?_
      exact sP_bound_29 L xs Q _ _ _ h
    · replace h := h.2 hc
      refine e3_fgt [false, false] ?_
      exact sP_bound_15 L xs Q _ _ h
/-- LetterPost.count(I)I -/
def wP_count (Q : Int → e3_H → e3_G → Prop) (l1 : Int) (H : e3_H) (G : e3_G) : Prop :=
  (((l1 : Int) = 0 → Q (H 8 0) H G) ∧ ((l1 : Int) = 1 → Q (H 14 3) H G) ∧ ((l1 : Int) = 2 → Q (H 26 1) H G) ∧ ((l1 : Int) = 3 → Q (H 3 1) H G) ∧ ((l1 : Int) = 4 → Q (e3_w32 ((H 8 0) - (H 2 7))) H G) ∧ ((l1 : Int) < 0 ∨ 4 < l1 → Q (-1) H G))
set_option maxRecDepth 100000 in
set_option maxHeartbeats 4000000 in
theorem sP_count (L : Nat) (xs : Nat → Int32) (Q : Int → e3_H → e3_G → Prop) (l1 : Int) (H : e3_H) (G : e3_G) (h : wP_count Q l1 H G) : e3_Ev (wB L xs) 0 0 195 0 [(2, 2), (0, l1)] [] H G (e3_q0 Q) := by
  unfold wP_count at h
  refine e3_K [0] 1 [(2, 2), (0, l1)] [(0, l1)] (H) (G) (wZ L xs) (M := tbM195) rfl rfl trivial ?_
  by_cases hc0 : (l1 : Int) = 0
  · replace h := h.1 hc0
    refine e3_sw (M := tbM195) rfl rfl hc0 rfl ?_
    refine e3_K [0, 4, 2] 43 [(2, 2), (0, l1)] [(0, (H 8 0))] (H) (G) (wZ L xs) (M := tbM195) rfl rfl ⟨trivial, trivial, trivial⟩ ?_
    exact e3_reti (M := tbM195) rfl rfl rfl ⟨_, rfl, h⟩
  replace h := h.2
  by_cases hc1 : (l1 : Int) = 1
  · replace h := h.1 hc1
    refine e3_sw (M := tbM195) rfl rfl hc1 rfl ?_
    refine e3_K [0, 4, 2] 51 [(2, 2), (0, l1)] [(0, (H 14 3))] (H) (G) (wZ L xs) (M := tbM195) rfl rfl ⟨trivial, trivial, trivial⟩ ?_
    exact e3_reti (M := tbM195) rfl rfl rfl ⟨_, rfl, h⟩
  replace h := h.2
  by_cases hc2 : (l1 : Int) = 2
  · replace h := h.1 hc2
    refine e3_sw (M := tbM195) rfl rfl hc2 rfl ?_
    refine e3_K [0, 4, 2] 59 [(2, 2), (0, l1)] [(0, (H 26 1))] (H) (G) (wZ L xs) (M := tbM195) rfl rfl ⟨trivial, trivial, trivial⟩ ?_
    exact e3_reti (M := tbM195) rfl rfl rfl ⟨_, rfl, h⟩
  replace h := h.2
  by_cases hc3 : (l1 : Int) = 3
  · replace h := h.1 hc3
    refine e3_sw (M := tbM195) rfl rfl hc3 rfl ?_
    refine e3_K [0, 4, 2] 67 [(2, 2), (0, l1)] [(0, (H 3 1))] (H) (G) (wZ L xs) (M := tbM195) rfl rfl ⟨trivial, trivial, trivial⟩ ?_
    exact e3_reti (M := tbM195) rfl rfl rfl ⟨_, rfl, h⟩
  replace h := h.2
  by_cases hc4 : (l1 : Int) = 4
  · replace h := h.1 hc4
    refine e3_sw (M := tbM195) rfl rfl hc4 rfl ?_
    refine e3_K [0, 4, 2, 0, 2, 0] 80 [(2, 2), (0, l1)] [(0, (e3_w32 ((H 8 0) - (H 2 7))))] (H) (G) (wZ L xs) (M := tbM195) rfl rfl ⟨trivial, trivial, trivial, trivial⟩ ?_
    exact e3_reti (M := tbM195) rfl rfl rfl ⟨_, rfl, h⟩
  replace h := h.2
  replace h := h (by omega)
  refine e3_sw (M := tbM195) rfl rfl rfl ((e3_swdt (by omega)).trans rfl) ?_
  refine e3_K [0] 82 [(2, 2), (0, l1)] [(0, (-1))] (H) (G) (wZ L xs) (M := tbM195) rfl rfl trivial ?_
  exact e3_reti (M := tbM195) rfl rfl rfl ⟨_, rfl, h⟩
/-- LetterPostModel.in(JJJ)Z -/
def wM_in_18 (Q : Int → e3_H → e3_G → Prop) (s0 : Int) (H : e3_H) (G : e3_G) : Prop :=
  ((s0 : Int) = 0 ∨ s0 = 1) ∧ Q s0 H G
def wM_in_17 (Q : Int → e3_H → e3_G → Prop)  (H : e3_H) (G : e3_G) : Prop :=
  (wM_in_18 Q 0 H G)
def wM_in (Q : Int → e3_H → e3_G → Prop) (l0 : Int) (l2 : Int) (l4 : Int) (H : e3_H) (G : e3_G) : Prop :=
  (((l0 : Int) < l2 → (wM_in_17 Q H G)) ∧ (¬ ((l0 : Int) < l2) → (((l4 : Int) < l0 → (wM_in_17 Q H G)) ∧ (¬ ((l4 : Int) < l0) → (wM_in_18 Q 1 H G)))))
set_option maxRecDepth 100000 in
set_option maxHeartbeats 4000000 in
theorem sM_in_18 (L : Nat) (xs : Nat → Int32) (Q : Int → e3_H → e3_G → Prop) (s0 : Int) (H : e3_H) (G : e3_G) (h : wM_in_18 Q s0 H G) : e3_Ev (wB L xs) 0 0 198 18 [(3, 0), (3, 0), (3, 0), (3, 0), (3, 0), (3, 0)] [(0, s0)] H G (e3_q0 Q) := by
  unfold wM_in_18 at h
  exact e3_retb (M := tbM198) rfl rfl rfl h.1 ⟨_, rfl, h.2⟩
set_option maxRecDepth 100000 in
set_option maxHeartbeats 4000000 in
theorem sM_in_17 (L : Nat) (xs : Nat → Int32) (Q : Int → e3_H → e3_G → Prop)  (H : e3_H) (G : e3_G) (h : wM_in_17 Q  H G) : e3_Ev (wB L xs) 0 0 198 17 [(3, 0), (3, 0), (3, 0), (3, 0), (3, 0), (3, 0)] [] H G (e3_q0 Q) := by
  unfold wM_in_17 at h
  refine e3_K [0] 18 [(3, 0), (3, 0), (3, 0), (3, 0), (3, 0), (3, 0)] [(0, 0)] (H) (G) (wZ L xs) (M := tbM198) rfl rfl trivial ?_
  exact sM_in_18 L xs Q _ _ _ h
set_option maxRecDepth 100000 in
set_option maxHeartbeats 4000000 in
theorem sM_in (L : Nat) (xs : Nat → Int32) (Q : Int → e3_H → e3_G → Prop) (l0 : Int) (l2 : Int) (l4 : Int) (H : e3_H) (G : e3_G) (h : wM_in Q l0 l2 l4 H G) : e3_Ev (wB L xs) 0 0 198 0 [(1, l0), (3, 0), (1, l2), (3, 0), (1, l4), (3, 0)] [] H G (e3_q0 Q) := by
  unfold wM_in at h
  refine e3_K [0, 0, 0] 3 [(1, l0), (3, 0), (1, l2), (3, 0), (1, l4), (3, 0)] [(0, (e3_cmp l0 l2))] (H) (G) (wZ L xs) (M := tbM198) rfl rfl trivial ?_
  refine e3_br (M := tbM198) rfl rfl rfl e3_cmp_lt (fun hc => ?_) (fun hc => ?_)
  · replace h := h.1 hc
    refine e3_fgt [false, false, false, false, false, false] ?_
    exact sM_in_17 L xs Q _ _ h
  · replace h := h.2 hc
    refine e3_K [0, 0, 0] 10 [(1, l0), (3, 0), (1, l2), (3, 0), (1, l4), (3, 0)] [(0, (e3_cmp l0 l4))] (H) (G) (wZ L xs) (M := tbM198) rfl rfl trivial ?_
    refine e3_br (M := tbM198) rfl rfl rfl e3_cmp_gt (fun hc => ?_) (fun hc => ?_)
    · replace h := h.1 hc
      refine e3_fgt [false, false, false, false, false, false] ?_
      exact sM_in_17 L xs Q _ _ h
    · replace h := h.2 hc
      refine e3_K [0, 0] 18 [(1, l0), (3, 0), (1, l2), (3, 0), (1, l4), (3, 0)] [(0, 1)] (H) (G) (wZ L xs) (M := tbM198) rfl rfl trivial ?_
      refine e3_fgt [false, false, false, false, false, false] ?_
      exact sM_in_18 L xs Q _ _ _ h
/-- LetterPostModel.feed(JI)I -/
def wM_feed_34 (Q : Int → e3_H → e3_G → Prop) : Nat → Int → Int → e3_H → e3_G → Prop
  | 0, _, _, _, _ => False
  | nn + 1, l1, l4, H, G => (((l4 : Int) < 0 → Q (H 40 1) H G) ∧ (¬ ((l4 : Int) < 0) → ((0 : Int) ≤ (H 40 1) ∧ ((H 40 1) : Int) < 1600) ∧ ∀ H1 : e3_H, H1 = e3_up H 41 (H 40 1) (e3_w32 (e3_land (e3_lshr l1 (e3_w32 (8 * l4))) 255)) → ∀ H3 : e3_H, H3 = e3_up H1 40 1 (e3_w32 ((H1 40 1) + 1)) → (wM_feed_34 Q nn l1 (e3_w32 (l4 + (-1))) H3 G)))
def wM_feed (Q : Int → e3_H → e3_G → Prop) (l1 : Int) (l3 : Int) (H : e3_H) (G : e3_G) : Prop :=
  (wM_in (fun x3 H1 G2 => (((x3 : Int) = 0 → Q (-1) H1 G2) ∧ (¬ ((x3 : Int) = 0) → (((1600 : Int) < (e3_w32 ((H1 40 1) + l3)) → Q (-3) H1 G2) ∧ (¬ ((1600 : Int) < (e3_w32 ((H1 40 1) + l3))) → (∃ n, wM_feed_34 Q n l1 (e3_w32 (l3 - 1)) H1 G2)))))) l3 1 8 H G)
set_option maxRecDepth 100000 in
set_option maxHeartbeats 4000000 in
theorem sM_feed_34 (L : Nat) (xs : Nat → Int32) (Q : Int → e3_H → e3_G → Prop) : ∀ (nl : Nat) (l1 : Int) (l4 : Int) (H : e3_H) (G : e3_G), wM_feed_34 Q nl l1 l4 H G → e3_Ev (wB L xs) 1 25 197 34 [(2, 40), (1, l1), (3, 0), (3, 0), (0, l4)] [] H G (e3_q0 Q) := by
  intro nl
  induction nl with
  | zero => intro l1 l4 H G h; exact h.elim
  | succ nn ih =>
    intro l1 l4 H G h
    have h : (((l4 : Int) < 0 → Q (H 40 1) H G) ∧ (¬ ((l4 : Int) < 0) → ((0 : Int) ≤ (H 40 1) ∧ ((H 40 1) : Int) < 1600) ∧ ∀ H1 : e3_H, H1 = e3_up H 41 (H 40 1) (e3_w32 (e3_land (e3_lshr l1 (e3_w32 (8 * l4))) 255)) → ∀ H3 : e3_H, H3 = e3_up H1 40 1 (e3_w32 ((H1 40 1) + 1)) → (wM_feed_34 Q nn l1 (e3_w32 (l4 + (-1))) H3 G))) := h
    refine e3_K [0] 36 [(2, 40), (1, l1), (3, 0), (3, 0), (0, l4)] [(0, l4)] (H) (G) (wZ L xs) (M := tbM197) rfl rfl trivial ?_
    refine e3_br (M := tbM197) rfl rfl rfl Iff.rfl (fun hc => ?_) (fun hc => ?_)
    · replace h := h.1 hc
      refine e3_K [0, 2] 80 [(2, 40), (1, l1), (3, 0), (3, 0), (0, l4)] [(0, (H 40 1))] (H) (G) (wZ L xs) (M := tbM197) rfl rfl ⟨trivial, trivial⟩ ?_
      exact e3_reti (M := tbM197) rfl rfl rfl ⟨_, rfl, h⟩
    · replace h := h.2 hc
      obtain ⟨o2, h⟩ := h
      refine e3_K [0, 4, 0, 2, 0, 0, 0, 0, 0, 2, 0, 0, 2] 60 [(2, 40), (1, l1), (3, 0), (3, 0), (0, l4)] [] (e3_up H 41 (H 40 1) (e3_w32 (e3_land (e3_lshr l1 (e3_w32 (8 * l4))) 255))) (G) (wZ L xs) (M := tbM197) rfl rfl ⟨trivial, trivial, trivial, o2, trivial⟩ ?_
      generalize hH1 : (e3_up H 41 (H 40 1) (e3_w32 (e3_land (e3_lshr l1 (e3_w32 (8 * l4))) 255))) = H1
      replace h := h H1 hH1.symm
      refine e3_K [0, 0, 2, 0, 0, 2] 70 [(2, 40), (1, l1), (3, 0), (3, 0), (0, l4)] [] (e3_up H1 40 1 (e3_w32 ((H1 40 1) + 1))) (G) (wZ L xs) (M := tbM197) rfl rfl ⟨trivial, trivial, trivial⟩ ?_
      generalize hH3 : (e3_up H1 40 1 (e3_w32 ((H1 40 1) + 1))) = H3
      replace h := h H3 hH3.symm
      refine e3_K [0, 0] 34 [(2, 40), (1, l1), (3, 0), (3, 0), (0, (e3_w32 (l4 + (-1))))] [] (H3) (G) (wZ L xs) (M := tbM197) rfl rfl trivial ?_
      exact ih _ _ _ _ h
set_option maxRecDepth 100000 in
set_option maxHeartbeats 4000000 in
theorem sM_feed (L : Nat) (xs : Nat → Int32) (Q : Int → e3_H → e3_G → Prop) (l1 : Int) (l3 : Int) (H : e3_H) (G : e3_G) (h : wM_feed Q l1 l3 H G) : e3_Ev (wB L xs) 1 25 197 0 [(2, 40), (1, l1), (3, 0), (0, l3), (3, 0)] [] H G (e3_q0 Q) := by
  unfold wM_feed at h
  refine e3_K [0, 0, 0, 2] 6 [(2, 40), (1, l1), (3, 0), (0, l3), (3, 0)] [(1, 8), (1, 1), (1, l3)] (H) (G) (wZ L xs) (M := tbM197) rfl rfl ⟨trivial, trivial⟩ ?_
  refine e3_call (o := 0) (k := 198) (M2 := tbM198) (f1 := 0) (w1 := 0) (as := [(1, l3), (1, 1), (1, 8)]) (rest := []) (M := tbM197) rfl rfl rfl trivial (Nat.le_of_ble_eq_true rfl) (Nat.le_of_ble_eq_true rfl) (Nat.le_of_ble_eq_true rfl) ?_
  refine e3_mono (sM_in L xs _ _ _ _ _ _ h) (fun r H1 G2 h => ?_)
  obtain ⟨x3, rfl, h⟩ := h
  change e3_Ev _ _ _ _ 9 [(2, 40), (1, l1), (3, 0), (0, l3), (3, 0)] [(0, x3)] H1 G2 _
  refine e3_br (M := tbM197) rfl rfl rfl Iff.rfl (fun hc => ?_) (fun hc => ?_)
  · replace h := h.1 hc
    refine e3_K [0] 13 [(2, 40), (1, l1), (3, 0), (0, l3), (3, 0)] [(0, (-1))] (H1) (G2) (wZ L xs) (M := tbM197) rfl rfl trivial ?_
    exact e3_reti (M := tbM197) rfl rfl rfl ⟨_, rfl, h⟩
  · replace h := h.2 hc
    refine e3_K [0, 2, 0, 0, 0] 23 [(2, 40), (1, l1), (3, 0), (0, l3), (3, 0)] [(0, 1600), (0, (e3_w32 ((H1 40 1) + l3)))] (H1) (G2) (wZ L xs) (M := tbM197) rfl rfl ⟨trivial, trivial⟩ ?_
    refine e3_br (M := tbM197) rfl rfl rfl Iff.rfl (fun hc => ?_) (fun hc => ?_)
    · replace h := h.1 hc
      refine e3_K [0] 28 [(2, 40), (1, l1), (3, 0), (0, l3), (3, 0)] [(0, (-3))] (H1) (G2) (wZ L xs) (M := tbM197) rfl rfl trivial ?_
      exact e3_reti (M := tbM197) rfl rfl rfl ⟨_, rfl, h⟩
    · replace h := h.2 hc
      refine e3_K [0, 0, 0, 0] 34 [(2, 40), (1, l1), (3, 0), (0, l3), (0, (e3_w32 (l3 - 1)))] [] (H1) (G2) (wZ L xs) (M := tbM197) rfl rfl trivial ?_
      refine e3_fgt [true, true, false, false, true] ?_
      obtain ⟨nl, h⟩ := h
      exact sM_feed_34 L xs Q nl _ _ _ _ h
/-- LetterPostModel.byteAt(I)I -/
def wM_byteAt_18 (Q : Int → e3_H → e3_G → Prop) (s0 : Int) (H : e3_H) (G : e3_G) : Prop :=
  Q s0 H G
def wM_byteAt (Q : Int → e3_H → e3_G → Prop) (l1 : Int) (H : e3_H) (G : e3_G) : Prop :=
  (((l1 : Int) < (H 40 1) → ((0 : Int) ≤ l1 ∧ (l1 : Int) < 1600) ∧ (wM_byteAt_18 Q (H 41 l1) H G)) ∧ (¬ ((l1 : Int) < (H 40 1)) → (wM_byteAt_18 Q (-1) H G)))
set_option maxRecDepth 100000 in
set_option maxHeartbeats 4000000 in
theorem sM_byteAt_18 (L : Nat) (xs : Nat → Int32) (Q : Int → e3_H → e3_G → Prop) (s0 : Int) (H : e3_H) (G : e3_G) (h : wM_byteAt_18 Q s0 H G) : e3_Ev (wB L xs) 0 0 202 18 [(3, 0), (3, 0)] [(0, s0)] H G (e3_q0 Q) := by
  unfold wM_byteAt_18 at h
  exact e3_reti (M := tbM202) rfl rfl rfl ⟨_, rfl, h⟩
set_option maxRecDepth 100000 in
set_option maxHeartbeats 4000000 in
theorem sM_byteAt (L : Nat) (xs : Nat → Int32) (Q : Int → e3_H → e3_G → Prop) (l1 : Int) (H : e3_H) (G : e3_G) (h : wM_byteAt Q l1 H G) : e3_Ev (wB L xs) 0 0 202 0 [(2, 40), (0, l1)] [] H G (e3_q0 Q) := by
  unfold wM_byteAt at h
  refine e3_K [0, 0, 2] 5 [(2, 40), (0, l1)] [(0, (H 40 1)), (0, l1)] (H) (G) (wZ L xs) (M := tbM202) rfl rfl ⟨trivial, trivial⟩ ?_
  refine e3_br (M := tbM202) rfl rfl rfl Iff.rfl (fun hc => ?_) (fun hc => ?_)
  · replace h := h.1 hc
    obtain ⟨o1, h⟩ := h
    refine e3_K [0, 4, 0, 2, 0] 18 [(2, 40), (0, l1)] [(0, (H 41 l1))] (H) (G) (wZ L xs) (M := tbM202) rfl rfl ⟨trivial, o1, trivial⟩ ?_
    refine e3_fgt [false, false] ?_
    exact sM_byteAt_18 L xs Q _ _ _ h
  · replace h := h.2 hc
    refine e3_K [0] 18 [(2, 40), (0, l1)] [(0, (-1))] (H) (G) (wZ L xs) (M := tbM202) rfl rfl trivial ?_
    refine e3_fgt [false, false] ?_
    exact sM_byteAt_18 L xs Q _ _ _ h
/-- LetterPostModel.isSmall(I)Z -/
def wM_isSmall (Q : Int → e3_H → e3_G → Prop) (l0 : Int) (H : e3_H) (G : e3_G) : Prop :=
  (wM_in (fun x3 H1 G2 => ((x3 : Int) = 0 ∨ x3 = 1) ∧ Q x3 H1 G2) l0 97 122 H G)
set_option maxRecDepth 100000 in
set_option maxHeartbeats 4000000 in
theorem sM_isSmall (L : Nat) (xs : Nat → Int32) (Q : Int → e3_H → e3_G → Prop) (l0 : Int) (H : e3_H) (G : e3_G) (h : wM_isSmall Q l0 H G) : e3_Ev (wB L xs) 1 25 203 0 [(0, l0)] [] H G (e3_q0 Q) := by
  unfold wM_isSmall at h
  refine e3_K [0, 0, 2, 2] 8 [(0, l0)] [(1, 122), (1, 97), (1, l0)] (H) (G) (wZ L xs) (M := tbM203) rfl rfl ⟨trivial, trivial, trivial⟩ ?_
  refine e3_call (o := 0) (k := 198) (M2 := tbM198) (f1 := 0) (w1 := 0) (as := [(1, l0), (1, 97), (1, 122)]) (rest := []) (M := tbM203) rfl rfl rfl trivial (Nat.le_of_ble_eq_true rfl) (Nat.le_of_ble_eq_true rfl) (Nat.le_of_ble_eq_true rfl) ?_
  refine e3_mono (sM_in L xs _ _ _ _ _ _ h) (fun r H1 G2 h => ?_)
  obtain ⟨x3, rfl, h⟩ := h
  change e3_Ev _ _ _ _ 11 [(0, l0)] [(0, x3)] H1 G2 _
  exact e3_retb (M := tbM203) rfl rfl rfl h.1 ⟨_, rfl, h.2⟩
/-- LetterPostModel.isFigure(I)Z -/
def wM_isFigure (Q : Int → e3_H → e3_G → Prop) (l0 : Int) (H : e3_H) (G : e3_G) : Prop :=
  (wM_in (fun x3 H1 G2 => ((x3 : Int) = 0 ∨ x3 = 1) ∧ Q x3 H1 G2) l0 48 57 H G)
set_option maxRecDepth 100000 in
set_option maxHeartbeats 4000000 in
theorem sM_isFigure (L : Nat) (xs : Nat → Int32) (Q : Int → e3_H → e3_G → Prop) (l0 : Int) (H : e3_H) (G : e3_G) (h : wM_isFigure Q l0 H G) : e3_Ev (wB L xs) 1 25 205 0 [(0, l0)] [] H G (e3_q0 Q) := by
  unfold wM_isFigure at h
  refine e3_K [0, 0, 2, 2] 8 [(0, l0)] [(1, 57), (1, 48), (1, l0)] (H) (G) (wZ L xs) (M := tbM205) rfl rfl ⟨trivial, trivial, trivial⟩ ?_
  refine e3_call (o := 0) (k := 198) (M2 := tbM198) (f1 := 0) (w1 := 0) (as := [(1, l0), (1, 48), (1, 57)]) (rest := []) (M := tbM205) rfl rfl rfl trivial (Nat.le_of_ble_eq_true rfl) (Nat.le_of_ble_eq_true rfl) (Nat.le_of_ble_eq_true rfl) ?_
  refine e3_mono (sM_in L xs _ _ _ _ _ _ h) (fun r H1 G2 h => ?_)
  obtain ⟨x3, rfl, h⟩ := h
  change e3_Ev _ _ _ _ 11 [(0, l0)] [(0, x3)] H1 G2 _
  exact e3_retb (M := tbM205) rfl rfl rfl h.1 ⟨_, rfl, h.2⟩
/-- LetterPostModel.wordOf(J)I -/
def wM_wordOf_138 (Q : Int → e3_H → e3_G → Prop) (s0 : Int) (H : e3_H) (G : e3_G) : Prop :=
  Q s0 H G
def wM_wordOf (Q : Int → e3_H → e3_G → Prop) (l0 : Int) (H : e3_H) (G : e3_G) : Prop :=
  (((l0 : Int) = 1802071652 → (wM_wordOf_138 Q 0 H G)) ∧ (¬ ((l0 : Int) = 1802071652) → (((l0 : Int) = 504363246962 → (wM_wordOf_138 Q 1 H G)) ∧ (¬ ((l0 : Int) = 504363246962) → (((l0 : Int) = 1936683636 → (wM_wordOf_138 Q 2 H G)) ∧ (¬ ((l0 : Int) = 1936683636) → (((l0 : Int) = 26982 → (wM_wordOf_138 Q 3 H G)) ∧ (¬ ((l0 : Int) = 26982) → (((l0 : Int) = 24947 → (wM_wordOf_138 Q 4 H G)) ∧ (¬ ((l0 : Int) = 24947) → (((l0 : Int) = 512853240933 → (wM_wordOf_138 Q 5 H G)) ∧ (¬ ((l0 : Int) = 512853240933) → (((l0 : Int) = 500136506472 → (wM_wordOf_138 Q 6 H G)) ∧ (¬ ((l0 : Int) = 500136506472) → (((l0 : Int) = 1952807028 → (wM_wordOf_138 Q 7 H G)) ∧ (¬ ((l0 : Int) = 1952807028) → (((l0 : Int) = 1953658213 → (wM_wordOf_138 Q 8 H G)) ∧ (¬ ((l0 : Int) = 1953658213) → (((l0 : Int) = 439721161573 → (wM_wordOf_138 Q 9 H G)) ∧ (¬ ((l0 : Int) = 439721161573) → (((l0 : Int) = 1852796517 → (wM_wordOf_138 Q 10 H G)) ∧ (¬ ((l0 : Int) = 1852796517) → (wM_wordOf_138 Q (-1) H G)))))))))))))))))))))))
set_option maxRecDepth 100000 in
set_option maxHeartbeats 4000000 in
theorem sM_wordOf_138 (L : Nat) (xs : Nat → Int32) (Q : Int → e3_H → e3_G → Prop) (s0 : Int) (H : e3_H) (G : e3_G) (h : wM_wordOf_138 Q s0 H G) : e3_Ev (wB L xs) 0 0 206 138 [(3, 0), (3, 0)] [(0, s0)] H G (e3_q0 Q) := by
  unfold wM_wordOf_138 at h
  exact e3_reti (M := tbM206) rfl rfl rfl ⟨_, rfl, h⟩
set_option maxRecDepth 100000 in
set_option maxHeartbeats 4000000 in
theorem sM_wordOf (L : Nat) (xs : Nat → Int32) (Q : Int → e3_H → e3_G → Prop) (l0 : Int) (H : e3_H) (G : e3_G) (h : wM_wordOf Q l0 H G) : e3_Ev (wB L xs) 0 0 206 0 [(1, l0), (3, 0)] [] H G (e3_q0 Q) := by
  unfold wM_wordOf at h
  refine e3_K [0, 2, 0] 5 [(1, l0), (3, 0)] [(0, (e3_cmp l0 1802071652))] (H) (G) (wZ L xs) (M := tbM206) rfl rfl ⟨trivial, trivial⟩ ?_
  refine e3_br (M := tbM206) rfl rfl rfl e3_cmp_eq (fun hc => ?_) (fun hc => ?_)
  · replace h := h.1 hc
    refine e3_K [0, 0] 138 [(1, l0), (3, 0)] [(0, 0)] (H) (G) (wZ L xs) (M := tbM206) rfl rfl trivial ?_
    refine e3_fgt [false, false] ?_
    exact sM_wordOf_138 L xs Q _ _ _ h
  · replace h := h.2 hc
    refine e3_K [0, 2, 0] 17 [(1, l0), (3, 0)] [(0, (e3_cmp l0 504363246962))] (H) (G) (wZ L xs) (M := tbM206) rfl rfl ⟨trivial, trivial⟩ ?_
    refine e3_br (M := tbM206) rfl rfl rfl e3_cmp_eq (fun hc => ?_) (fun hc => ?_)
    · replace h := h.1 hc
      refine e3_K [0, 0] 138 [(1, l0), (3, 0)] [(0, 1)] (H) (G) (wZ L xs) (M := tbM206) rfl rfl trivial ?_
      refine e3_fgt [false, false] ?_
      exact sM_wordOf_138 L xs Q _ _ _ h
    · replace h := h.2 hc
      refine e3_K [0, 2, 0] 29 [(1, l0), (3, 0)] [(0, (e3_cmp l0 1936683636))] (H) (G) (wZ L xs) (M := tbM206) rfl rfl ⟨trivial, trivial⟩ ?_
      refine e3_br (M := tbM206) rfl rfl rfl e3_cmp_eq (fun hc => ?_) (fun hc => ?_)
      · replace h := h.1 hc
        refine e3_K [0, 0] 138 [(1, l0), (3, 0)] [(0, 2)] (H) (G) (wZ L xs) (M := tbM206) rfl rfl trivial ?_
        refine e3_fgt [false, false] ?_
        exact sM_wordOf_138 L xs Q _ _ _ h
      · replace h := h.2 hc
        refine e3_K [0, 2, 0] 41 [(1, l0), (3, 0)] [(0, (e3_cmp l0 26982))] (H) (G) (wZ L xs) (M := tbM206) rfl rfl ⟨trivial, trivial⟩ ?_
        refine e3_br (M := tbM206) rfl rfl rfl e3_cmp_eq (fun hc => ?_) (fun hc => ?_)
        · replace h := h.1 hc
          refine e3_K [0, 0] 138 [(1, l0), (3, 0)] [(0, 3)] (H) (G) (wZ L xs) (M := tbM206) rfl rfl trivial ?_
          refine e3_fgt [false, false] ?_
          exact sM_wordOf_138 L xs Q _ _ _ h
        · replace h := h.2 hc
          refine e3_K [0, 2, 0] 53 [(1, l0), (3, 0)] [(0, (e3_cmp l0 24947))] (H) (G) (wZ L xs) (M := tbM206) rfl rfl ⟨trivial, trivial⟩ ?_
          refine e3_br (M := tbM206) rfl rfl rfl e3_cmp_eq (fun hc => ?_) (fun hc => ?_)
          · replace h := h.1 hc
            refine e3_K [0, 0] 138 [(1, l0), (3, 0)] [(0, 4)] (H) (G) (wZ L xs) (M := tbM206) rfl rfl trivial ?_
            refine e3_fgt [false, false] ?_
            exact sM_wordOf_138 L xs Q _ _ _ h
          · replace h := h.2 hc
            refine e3_K [0, 2, 0] 65 [(1, l0), (3, 0)] [(0, (e3_cmp l0 512853240933))] (H) (G) (wZ L xs) (M := tbM206) rfl rfl ⟨trivial, trivial⟩ ?_
            refine e3_br (M := tbM206) rfl rfl rfl e3_cmp_eq (fun hc => ?_) (fun hc => ?_)
            · replace h := h.1 hc
              refine e3_K [0, 0] 138 [(1, l0), (3, 0)] [(0, 5)] (H) (G) (wZ L xs) (M := tbM206) rfl rfl trivial ?_
              refine e3_fgt [false, false] ?_
              exact sM_wordOf_138 L xs Q _ _ _ h
            · replace h := h.2 hc
              refine e3_K [0, 2, 0] 77 [(1, l0), (3, 0)] [(0, (e3_cmp l0 500136506472))] (H) (G) (wZ L xs) (M := tbM206) rfl rfl ⟨trivial, trivial⟩ ?_
              refine e3_br (M := tbM206) rfl rfl rfl e3_cmp_eq (fun hc => ?_) (fun hc => ?_)
              · replace h := h.1 hc
                refine e3_K [0, 0] 138 [(1, l0), (3, 0)] [(0, 6)] (H) (G) (wZ L xs) (M := tbM206) rfl rfl trivial ?_
                refine e3_fgt [false, false] ?_
                exact sM_wordOf_138 L xs Q _ _ _ h
              · replace h := h.2 hc
                refine e3_K [0, 2, 0] 90 [(1, l0), (3, 0)] [(0, (e3_cmp l0 1952807028))] (H) (G) (wZ L xs) (M := tbM206) rfl rfl ⟨trivial, trivial⟩ ?_
                refine e3_br (M := tbM206) rfl rfl rfl e3_cmp_eq (fun hc => ?_) (fun hc => ?_)
                · replace h := h.1 hc
                  refine e3_K [0, 0] 138 [(1, l0), (3, 0)] [(0, 7)] (H) (G) (wZ L xs) (M := tbM206) rfl rfl trivial ?_
                  refine e3_fgt [false, false] ?_
                  exact sM_wordOf_138 L xs Q _ _ _ h
                · replace h := h.2 hc
                  refine e3_K [0, 2, 0] 103 [(1, l0), (3, 0)] [(0, (e3_cmp l0 1953658213))] (H) (G) (wZ L xs) (M := tbM206) rfl rfl ⟨trivial, trivial⟩ ?_
                  refine e3_br (M := tbM206) rfl rfl rfl e3_cmp_eq (fun hc => ?_) (fun hc => ?_)
                  · replace h := h.1 hc
                    refine e3_K [0, 0] 138 [(1, l0), (3, 0)] [(0, 8)] (H) (G) (wZ L xs) (M := tbM206) rfl rfl trivial ?_
                    refine e3_fgt [false, false] ?_
                    exact sM_wordOf_138 L xs Q _ _ _ h
                  · replace h := h.2 hc
                    refine e3_K [0, 2, 0] 116 [(1, l0), (3, 0)] [(0, (e3_cmp l0 439721161573))] (H) (G) (wZ L xs) (M := tbM206) rfl rfl ⟨trivial, trivial⟩ ?_
                    refine e3_br (M := tbM206) rfl rfl rfl e3_cmp_eq (fun hc => ?_) (fun hc => ?_)
                    · replace h := h.1 hc
                      refine e3_K [0, 0] 138 [(1, l0), (3, 0)] [(0, 9)] (H) (G) (wZ L xs) (M := tbM206) rfl rfl trivial ?_
                      refine e3_fgt [false, false] ?_
                      exact sM_wordOf_138 L xs Q _ _ _ h
                    · replace h := h.2 hc
                      refine e3_K [0, 2, 0] 129 [(1, l0), (3, 0)] [(0, (e3_cmp l0 1852796517))] (H) (G) (wZ L xs) (M := tbM206) rfl rfl ⟨trivial, trivial⟩ ?_
                      refine e3_br (M := tbM206) rfl rfl rfl e3_cmp_eq (fun hc => ?_) (fun hc => ?_)
                      · replace h := h.1 hc
                        refine e3_K [0, 0] 138 [(1, l0), (3, 0)] [(0, 10)] (H) (G) (wZ L xs) (M := tbM206) rfl rfl trivial ?_
                        refine e3_fgt [false, false] ?_
                        exact sM_wordOf_138 L xs Q _ _ _ h
                      · replace h := h.2 hc
                        refine e3_K [0] 138 [(1, l0), (3, 0)] [(0, (-1))] (H) (G) (wZ L xs) (M := tbM206) rfl rfl trivial ?_
                        refine e3_fgt [false, false] ?_
                        exact sM_wordOf_138 L xs Q _ _ _ h
/-- LetterPostModel.name(I)V -/
def wM_name_166 (Q : e3_H → e3_G → Prop)  (H : e3_H) (G : e3_G) : Prop :=
  Q H G
def wM_name_163 (Q : e3_H → e3_G → Prop) (s0 : Int) (H : e3_H) (G : e3_G) : Prop :=
  ∀ H1 : e3_H, H1 = e3_up H 40 4 s0 → (wM_name_166 Q H1 G)
def wM_name_141 (Q : e3_H → e3_G → Prop) (l2 : Int) (s0 : Int) (H : e3_H) (G : e3_G) : Prop :=
  ∀ H1 : e3_H, H1 = e3_up H 40 3 s0 → ((((H1 40 3) : Int) = 6 → (wM_name_163 Q l2 H1 G)) ∧ (¬ (((H1 40 3) : Int) = 6) → (wM_name_163 Q (H1 40 4) H1 G)))
def wM_name_47 (Q : e3_H → e3_G → Prop) (k8 : Int → e3_H → e3_G → Prop) (l1 : Int) (s0 : Int) (H : e3_H) (G : e3_G) : Prop :=
  ∀ H1 : e3_H, H1 = e3_up H 40 4 s0 → ∀ H2 : e3_H, H2 = e3_up H1 40 6 (e3_w32 ((H1 40 6) + 1)) → (wM_byteAt (fun x5 H3 G4 => (wM_isSmall (fun x8 H6 G7 => (((x8 : Int) = 0 → (wM_byteAt (fun x11 H9 G10 => (wM_isFigure (fun x14 H12 G13 => (((x14 : Int) = 0 → (((8 : Int) < (e3_w32 ((H12 40 6) - (H12 40 2))) → ∀ H15 : e3_H, H15 = e3_up H12 40 3 7 → (wM_name_166 Q H15 G13)) ∧ (¬ ((8 : Int) < (e3_w32 ((H12 40 6) - (H12 40 2)))) → (wM_wordOf (fun x18 H16 G17 => (wM_isSmall (fun x21 H19 G20 => (((x21 : Int) = 0 → (wM_name_141 Q x18 2 H19 G20)) ∧ (¬ ((x21 : Int) = 0) → (((x18 : Int) < 0 → (wM_name_141 Q x18 1 H19 G20)) ∧ (¬ ((x18 : Int) < 0) → (wM_name_141 Q x18 6 H19 G20)))))) l1 H16 G17)) (H12 40 4) H12 G13)))) ∧ (¬ ((x14 : Int) = 0) → (k8 l1 H12 G13)))) x11 H9 G10)) (H6 40 6) H6 G7)) ∧ (¬ ((x8 : Int) = 0) → (k8 l1 H6 G7)))) x5 H3 G4)) (H2 40 6) H2 G)
def wM_name_8 (Q : e3_H → e3_G → Prop) : Nat → Int → e3_H → e3_G → Prop
  | 0, _, _, _ => False
  | nn + 1, l1, H, G => ((((e3_w32 ((H 40 6) - (H 40 2))) : Int) < 8 → (wM_byteAt (fun x3 H1 G2 => (wM_name_47 Q (fun l1 H G => wM_name_8 Q nn l1 H G) l1 (e3_lor (e3_lshl (H 40 4) 8) x3) H1 G2)) (H 40 6) H G)) ∧ (¬ (((e3_w32 ((H 40 6) - (H 40 2))) : Int) < 8) → (wM_name_47 Q (fun l1 H G => wM_name_8 Q nn l1 H G) l1 (H 40 4) H G)))
def wM_name (Q : e3_H → e3_G → Prop) (l1 : Int) (H : e3_H) (G : e3_G) : Prop :=
  ∀ H1 : e3_H, H1 = e3_up H 40 6 (H 40 2) → (∃ n, wM_name_8 Q n l1 H1 G)
set_option maxRecDepth 100000 in
set_option maxHeartbeats 4000000 in
theorem sM_name_166 (L : Nat) (xs : Nat → Int32) (Q : e3_H → e3_G → Prop)  (H : e3_H) (G : e3_G) (h : wM_name_166 Q  H G) : e3_Ev (wB L xs) 2 45 204 166 [(3, 0), (3, 0), (3, 0)] [] H G (e3_qv Q) := by
  unfold wM_name_166 at h
  exact e3_retv (M := tbM204) rfl rfl rfl ⟨rfl, h⟩
set_option maxRecDepth 100000 in
set_option maxHeartbeats 4000000 in
theorem sM_name_163 (L : Nat) (xs : Nat → Int32) (Q : e3_H → e3_G → Prop) (s0 : Int) (H : e3_H) (G : e3_G) (h : wM_name_163 Q s0 H G) : e3_Ev (wB L xs) 2 45 204 163 [(3, 0), (3, 0), (3, 0)] [(1, s0), (2, 40)] H G (e3_qv Q) := by
  unfold wM_name_163 at h
  refine e3_K [2] 166 [(3, 0), (3, 0), (3, 0)] [] (e3_up H 40 4 s0) (G) (wZ L xs) (M := tbM204) rfl rfl ⟨trivial, trivial⟩ ?_
  generalize hH1 : (e3_up H 40 4 s0) = H1
  replace h := h H1 hH1.symm
  exact sM_name_166 L xs Q _ _ h
set_option maxRecDepth 100000 in
set_option maxHeartbeats 4000000 in
theorem sM_name_141 (L : Nat) (xs : Nat → Int32) (Q : e3_H → e3_G → Prop) (l2 : Int) (s0 : Int) (H : e3_H) (G : e3_G) (h : wM_name_141 Q l2 s0 H G) : e3_Ev (wB L xs) 2 45 204 141 [(2, 40), (3, 0), (0, l2)] [(0, s0), (2, 40)] H G (e3_qv Q) := by
  unfold wM_name_141 at h
  refine e3_K [2] 144 [(2, 40), (3, 0), (0, l2)] [] (e3_up H 40 3 s0) (G) (wZ L xs) (M := tbM204) rfl rfl ⟨trivial, trivial⟩ ?_
  generalize hH1 : (e3_up H 40 3 s0) = H1
  replace h := h H1 hH1.symm
  refine e3_K [0, 0, 2, 0] 151 [(2, 40), (3, 0), (0, l2)] [(0, 6), (0, (H1 40 3)), (2, 40)] (H1) (G) (wZ L xs) (M := tbM204) rfl rfl ⟨trivial, trivial⟩ ?_
  refine e3_br (M := tbM204) rfl rfl rfl Iff.rfl (fun hc => ?_) (fun hc => ?_)
  · replace h := h.1 hc
    refine e3_K [0, 0, 0] 163 [(2, 40), (3, 0), (0, l2)] [(1, l2), (2, 40)] (H1) (G) (wZ L xs) (M := tbM204) rfl rfl trivial ?_
    refine e3_fgt [false, false, false] ?_
    exact sM_name_163 L xs Q _ _ _ h
  · replace h := h.2 hc
    refine e3_K [0, 2] 163 [(2, 40), (3, 0), (0, l2)] [(1, (H1 40 4)), (2, 40)] (H1) (G) (wZ L xs) (M := tbM204) rfl rfl ⟨trivial, trivial⟩ ?_
    refine e3_fgt [false, false, false] ?_
    exact sM_name_163 L xs Q _ _ _ h
set_option maxRecDepth 100000 in
set_option maxHeartbeats 4000000 in
theorem sM_name_47 (L : Nat) (xs : Nat → Int32) (Q : e3_H → e3_G → Prop) (k8 : Int → e3_H → e3_G → Prop) (hk8 : ∀ (l1 : Int) (H : e3_H) (G : e3_G), k8 l1 H G → e3_Ev (wB L xs) 2 45 204 8 [(2, 40), (0, l1), (3, 0)] [] H G (e3_qv Q)) (l1 : Int) (s0 : Int) (H : e3_H) (G : e3_G) (h : wM_name_47 Q k8 l1 s0 H G) : e3_Ev (wB L xs) 2 45 204 47 [(2, 40), (0, l1), (3, 0)] [(1, s0), (2, 40)] H G (e3_qv Q) := by
  unfold wM_name_47 at h
  refine e3_K [2] 50 [(2, 40), (0, l1), (3, 0)] [] (e3_up H 40 4 s0) (G) (wZ L xs) (M := tbM204) rfl rfl ⟨trivial, trivial⟩ ?_
  generalize hH1 : (e3_up H 40 4 s0) = H1
  replace h := h H1 hH1.symm
  refine e3_K [0, 0, 2, 0, 0, 2] 60 [(2, 40), (0, l1), (3, 0)] [] (e3_up H1 40 6 (e3_w32 ((H1 40 6) + 1))) (G) (wZ L xs) (M := tbM204) rfl rfl ⟨trivial, trivial, trivial⟩ ?_
  generalize hH2 : (e3_up H1 40 6 (e3_w32 ((H1 40 6) + 1))) = H2
  replace h := h H2 hH2.symm
  refine e3_K [0, 0, 2] 65 [(2, 40), (0, l1), (3, 0)] [(0, (H2 40 6)), (2, 40)] (H2) (G) (wZ L xs) (M := tbM204) rfl rfl ⟨trivial, trivial⟩ ?_
  refine e3_call (o := 0) (k := 202) (M2 := tbM202) (f1 := 0) (w1 := 0) (as := [(2, 40), (0, (H2 40 6))]) (rest := []) (M := tbM204) rfl rfl rfl trivial (Nat.le_of_ble_eq_true rfl) (Nat.le_of_ble_eq_true rfl) (Nat.le_of_ble_eq_true rfl) ?_
  refine e3_mono (sM_byteAt L xs _ _ _ _ h) (fun r H3 G4 h => ?_)
  obtain ⟨x5, rfl, h⟩ := h
  change e3_Ev _ _ _ _ 68 [(2, 40), (0, l1), (3, 0)] [(0, x5)] H3 G4 _
  refine e3_call (o := 0) (k := 203) (M2 := tbM203) (f1 := 1) (w1 := 25) (as := [(0, x5)]) (rest := []) (M := tbM204) rfl rfl rfl trivial (Nat.le_of_ble_eq_true rfl) (Nat.le_of_ble_eq_true rfl) (Nat.le_of_ble_eq_true rfl) ?_
  refine e3_mono (sM_isSmall L xs _ _ _ _ h) (fun r H6 G7 h => ?_)
  obtain ⟨x8, rfl, h⟩ := h
  change e3_Ev _ _ _ _ 71 [(2, 40), (0, l1), (3, 0)] [(0, x8)] H6 G7 _
  refine e3_br (M := tbM204) rfl rfl rfl Iff.rfl (fun hc => ?_) (fun hc => ?_)
  · replace h := h.1 hc
    refine e3_K [0, 0, 2] 79 [(2, 40), (0, l1), (3, 0)] [(0, (H6 40 6)), (2, 40)] (H6) (G7) (wZ L xs) (M := tbM204) rfl rfl ⟨trivial, trivial⟩ ?_
    refine e3_call (o := 0) (k := 202) (M2 := tbM202) (f1 := 0) (w1 := 0) (as := [(2, 40), (0, (H6 40 6))]) (rest := []) (M := tbM204) rfl rfl rfl trivial (Nat.le_of_ble_eq_true rfl) (Nat.le_of_ble_eq_true rfl) (Nat.le_of_ble_eq_true rfl) ?_
    refine e3_mono (sM_byteAt L xs _ _ _ _ h) (fun r H9 G10 h => ?_)
    obtain ⟨x11, rfl, h⟩ := h
    change e3_Ev _ _ _ _ 82 [(2, 40), (0, l1), (3, 0)] [(0, x11)] H9 G10 _
    refine e3_call (o := 0) (k := 205) (M2 := tbM205) (f1 := 1) (w1 := 25) (as := [(0, x11)]) (rest := []) (M := tbM204) rfl rfl rfl trivial (Nat.le_of_ble_eq_true rfl) (Nat.le_of_ble_eq_true rfl) (Nat.le_of_ble_eq_true rfl) ?_
    refine e3_mono (sM_isFigure L xs _ _ _ _ h) (fun r H12 G13 h => ?_)
    obtain ⟨x14, rfl, h⟩ := h
    change e3_Ev _ _ _ _ 85 [(2, 40), (0, l1), (3, 0)] [(0, x14)] H12 G13 _
    refine e3_br (M := tbM204) rfl rfl rfl Iff.rfl (fun hc => ?_) (fun hc => ?_)
    · replace h := h.1 hc
      refine e3_K [0, 2, 0, 2, 0, 0] 99 [(2, 40), (0, l1), (3, 0)] [(0, 8), (0, (e3_w32 ((H12 40 6) - (H12 40 2))))] (H12) (G13) (wZ L xs) (M := tbM204) rfl rfl ⟨trivial, trivial, trivial⟩ ?_
      refine e3_br (M := tbM204) rfl rfl rfl Iff.rfl (fun hc => ?_) (fun hc => ?_)
      · replace h := h.1 hc
        refine e3_K [0, 0, 2] 108 [(2, 40), (0, l1), (3, 0)] [] (e3_up H12 40 3 7) (G13) (wZ L xs) (M := tbM204) rfl rfl ⟨trivial, trivial⟩ ?_
        generalize hH15 : (e3_up H12 40 3 7) = H15
        replace h := h H15 hH15.symm
        refine e3_K [0] 166 [(2, 40), (0, l1), (3, 0)] [] (H15) (G13) (wZ L xs) (M := tbM204) rfl rfl trivial ?_
        refine e3_fgt [false, false, false] ?_
        exact sM_name_166 L xs Q _ _ h
      · replace h := h.2 hc
        refine e3_K [0, 2] 115 [(2, 40), (0, l1), (3, 0)] [(1, (H12 40 4))] (H12) (G13) (wZ L xs) (M := tbM204) rfl rfl ⟨trivial, trivial⟩ ?_
        refine e3_call (o := 0) (k := 206) (M2 := tbM206) (f1 := 0) (w1 := 0) (as := [(1, (H12 40 4))]) (rest := []) (M := tbM204) rfl rfl rfl trivial (Nat.le_of_ble_eq_true rfl) (Nat.le_of_ble_eq_true rfl) (Nat.le_of_ble_eq_true rfl) ?_
        refine e3_mono (sM_wordOf L xs _ _ _ _ h) (fun r H16 G17 h => ?_)
        obtain ⟨x18, rfl, h⟩ := h
        change e3_Ev _ _ _ _ 118 [(2, 40), (0, l1), (3, 0)] [(0, x18)] H16 G17 _
        refine e3_K [0, 0, 0] 121 [(2, 40), (0, l1), (0, x18)] [(0, l1), (2, 40)] (H16) (G17) (wZ L xs) (M := tbM204) rfl rfl trivial ?_
        refine e3_call (o := 0) (k := 203) (M2 := tbM203) (f1 := 1) (w1 := 25) (as := [(0, l1)]) (rest := [(2, 40)]) (M := tbM204) rfl rfl rfl trivial (Nat.le_of_ble_eq_true rfl) (Nat.le_of_ble_eq_true rfl) (Nat.le_of_ble_eq_true rfl) ?_
        refine e3_mono (sM_isSmall L xs _ _ _ _ h) (fun r H19 G20 h => ?_)
        obtain ⟨x21, rfl, h⟩ := h
        change e3_Ev _ _ _ _ 124 [(2, 40), (0, l1), (0, x18)] [(0, x21), (2, 40)] H19 G20 _
        refine e3_br (M := tbM204) rfl rfl rfl Iff.rfl (fun hc => ?_) (fun hc => ?_)
        · replace h := h.1 hc
          refine e3_K [0, 0] 141 [(2, 40), (0, l1), (0, x18)] [(0, 2), (2, 40)] (H19) (G20) (wZ L xs) (M := tbM204) rfl rfl trivial ?_
          refine e3_fgt [true, false, true] ?_
          exact sM_name_141 L xs Q _ _ _ _ h
        · replace h := h.2 hc
          refine e3_K [0] 132 [(2, 40), (0, l1), (0, x18)] [(0, x18), (2, 40)] (H19) (G20) (wZ L xs) (M := tbM204) rfl rfl trivial ?_
          refine e3_br (M := tbM204) rfl rfl rfl Iff.rfl (fun hc => ?_) (fun hc => ?_)
          · replace h := h.1 hc
            refine e3_K [0] 141 [(2, 40), (0, l1), (0, x18)] [(0, 1), (2, 40)] (H19) (G20) (wZ L xs) (M := tbM204) rfl rfl trivial ?_
            refine e3_fgt [true, false, true] ?_
            exact sM_name_141 L xs Q _ _ _ _ h
          · replace h := h.2 hc
            refine e3_K [0, 0] 141 [(2, 40), (0, l1), (0, x18)] [(0, 6), (2, 40)] (H19) (G20) (wZ L xs) (M := tbM204) rfl rfl trivial ?_
            refine e3_fgt [true, false, true] ?_
            exact sM_name_141 L xs Q _ _ _ _ h
    · replace h := h.2 hc
      exact hk8 _ _ _ h
  · replace h := h.2 hc
    exact hk8 _ _ _ h
set_option maxRecDepth 100000 in
set_option maxHeartbeats 4000000 in
theorem sM_name_8 (L : Nat) (xs : Nat → Int32) (Q : e3_H → e3_G → Prop) : ∀ (nl : Nat) (l1 : Int) (H : e3_H) (G : e3_G), wM_name_8 Q nl l1 H G → e3_Ev (wB L xs) 2 45 204 8 [(2, 40), (0, l1), (3, 0)] [] H G (e3_qv Q) := by
  intro nl
  induction nl with
  | zero => intro l1 H G h; exact h.elim
  | succ nn ih =>
    intro l1 H G h
    have h : ((((e3_w32 ((H 40 6) - (H 40 2))) : Int) < 8 → (wM_byteAt (fun x3 H1 G2 => (wM_name_47 Q (fun l1 H G => wM_name_8 Q nn l1 H G) l1 (e3_lor (e3_lshl (H 40 4) 8) x3) H1 G2)) (H 40 6) H G)) ∧ (¬ (((e3_w32 ((H 40 6) - (H 40 2))) : Int) < 8) → (wM_name_47 Q (fun l1 H G => wM_name_8 Q nn l1 H G) l1 (H 40 4) H G))) := h
    refine e3_K [0, 0, 2, 0, 2, 0, 0] 20 [(2, 40), (0, l1), (3, 0)] [(0, 8), (0, (e3_w32 ((H 40 6) - (H 40 2)))), (2, 40)] (H) (G) (wZ L xs) (M := tbM204) rfl rfl ⟨trivial, trivial, trivial⟩ ?_
    refine e3_br (M := tbM204) rfl rfl rfl Iff.rfl (fun hc => ?_) (fun hc => ?_)
    · replace h := h.1 hc
      refine e3_K [0, 2, 0, 0, 0, 0, 2] 35 [(2, 40), (0, l1), (3, 0)] [(0, (H 40 6)), (2, 40), (1, (e3_lshl (H 40 4) 8)), (2, 40)] (H) (G) (wZ L xs) (M := tbM204) rfl rfl ⟨trivial, trivial, trivial⟩ ?_
      refine e3_call (o := 0) (k := 202) (M2 := tbM202) (f1 := 0) (w1 := 0) (as := [(2, 40), (0, (H 40 6))]) (rest := [(1, (e3_lshl (H 40 4) 8)), (2, 40)]) (M := tbM204) rfl rfl rfl trivial (Nat.le_of_ble_eq_true rfl) (Nat.le_of_ble_eq_true rfl) (Nat.le_of_ble_eq_true rfl) ?_
      refine e3_mono (sM_byteAt L xs _ _ _ _ h) (fun r H1 G2 h => ?_)
      obtain ⟨x3, rfl, h⟩ := h
      change e3_Ev _ _ _ _ 38 [(2, 40), (0, l1), (3, 0)] [(0, x3), (1, (e3_lshl (H 40 4) 8)), (2, 40)] H1 G2 _
      refine e3_K [0, 0, 0] 47 [(2, 40), (0, l1), (3, 0)] [(1, (e3_lor (e3_lshl (H 40 4) 8) x3)), (2, 40)] (H1) (G2) (wZ L xs) (M := tbM204) rfl rfl trivial ?_
      exact sM_name_47 L xs Q (fun l1 H G => wM_name_8 Q nn l1 H G) ih _ _ _ _ h
    · replace h := h.2 hc
      refine e3_K [0, 2] 47 [(2, 40), (0, l1), (3, 0)] [(1, (H 40 4)), (2, 40)] (H) (G) (wZ L xs) (M := tbM204) rfl rfl ⟨trivial, trivial⟩ ?_
      exact sM_name_47 L xs Q (fun l1 H G => wM_name_8 Q nn l1 H G) ih _ _ _ _ h
set_option maxRecDepth 100000 in
set_option maxHeartbeats 4000000 in
theorem sM_name (L : Nat) (xs : Nat → Int32) (Q : e3_H → e3_G → Prop) (l1 : Int) (H : e3_H) (G : e3_G) (h : wM_name Q l1 H G) : e3_Ev (wB L xs) 2 45 204 0 [(2, 40), (0, l1), (3, 0)] [] H G (e3_qv Q) := by
  unfold wM_name at h
  refine e3_K [0, 0, 2, 2] 8 [(2, 40), (0, l1), (3, 0)] [] (e3_up H 40 6 (H 40 2)) (G) (wZ L xs) (M := tbM204) rfl rfl ⟨trivial, trivial, trivial⟩ ?_
  generalize hH1 : (e3_up H 40 6 (H 40 2)) = H1
  replace h := h H1 hH1.symm
  obtain ⟨nl, h⟩ := h
  exact sM_name_8 L xs Q nl _ _ _ h
/-- LetterPostModel.next()V -/
def wM_next_34 (Q : e3_H → e3_G → Prop) (k8 : e3_H → e3_G → Prop)  (H : e3_H) (G : e3_G) : Prop :=
  ∀ H1 : e3_H, H1 = e3_up H 40 2 (e3_w32 ((H 40 2) + 1)) → (k8 H1 G)
def wM_next_549 (Q : e3_H → e3_G → Prop)  (H : e3_H) (G : e3_G) : Prop :=
  Q H G
def wM_next_121 (Q : e3_H → e3_G → Prop) (l1 : Int) (H : e3_H) (G : e3_G) : Prop :=
  (wM_name (fun H1 G2 => (wM_next_549 Q H1 G2)) l1 H G)
def wM_next_540 (Q : e3_H → e3_G → Prop) (l1 : Int) (s0 : Int) (H : e3_H) (G : e3_G) : Prop :=
  ∀ H1 : e3_H, H1 = e3_up H 40 3 s0 → ∀ H2 : e3_H, H2 = e3_up H1 40 4 l1 → (wM_next_549 Q H2 G)
def wM_next_528 (Q : e3_H → e3_G → Prop) (l1 : Int) (s0 : Int) (H : e3_H) (G : e3_G) : Prop :=
  (((s0 : Int) = 0 → (wM_next_540 Q l1 7 H G)) ∧ (¬ ((s0 : Int) = 0) → (wM_next_540 Q l1 5 H G)))
def wM_next_523 (Q : e3_H → e3_G → Prop) (l1 : Int) (H : e3_H) (G : e3_G) : Prop :=
  (wM_next_528 Q l1 1 H G)
def wM_next_421 (Q : e3_H → e3_G → Prop) (l1 : Int) (H : e3_H) (G : e3_G) : Prop :=
  (((l1 : Int) = 59 → (wM_next_523 Q l1 H G)) ∧ (¬ ((l1 : Int) = 59) → (((l1 : Int) = 44 → (wM_next_523 Q l1 H G)) ∧ (¬ ((l1 : Int) = 44) → (((l1 : Int) = 40 → (wM_next_523 Q l1 H G)) ∧ (¬ ((l1 : Int) = 40) → (((l1 : Int) = 41 → (wM_next_523 Q l1 H G)) ∧ (¬ ((l1 : Int) = 41) → (((l1 : Int) = 123 → (wM_next_523 Q l1 H G)) ∧ (¬ ((l1 : Int) = 123) → (((l1 : Int) = 125 → (wM_next_523 Q l1 H G)) ∧ (¬ ((l1 : Int) = 125) → (((l1 : Int) = 58 → (wM_next_523 Q l1 H G)) ∧ (¬ ((l1 : Int) = 58) → (((l1 : Int) = 124 → (wM_next_523 Q l1 H G)) ∧ (¬ ((l1 : Int) = 124) → (((l1 : Int) = 95 → (wM_next_523 Q l1 H G)) ∧ (¬ ((l1 : Int) = 95) → (((l1 : Int) = 60 → (wM_next_523 Q l1 H G)) ∧ (¬ ((l1 : Int) = 60) → (((l1 : Int) = 61 → (wM_next_523 Q l1 H G)) ∧ (¬ ((l1 : Int) = 61) → (((l1 : Int) = 62 → (wM_next_523 Q l1 H G)) ∧ (¬ ((l1 : Int) = 62) → (((l1 : Int) = 43 → (wM_next_523 Q l1 H G)) ∧ (¬ ((l1 : Int) = 43) → (((l1 : Int) = 45 → (wM_next_523 Q l1 H G)) ∧ (¬ ((l1 : Int) = 45) → (((l1 : Int) = 42 → (wM_next_523 Q l1 H G)) ∧ (¬ ((l1 : Int) = 42) → (((l1 : Int) = 47 → (wM_next_523 Q l1 H G)) ∧ (¬ ((l1 : Int) = 47) → (((l1 : Int) = 37 → (wM_next_523 Q l1 H G)) ∧ (¬ ((l1 : Int) = 37) → (wM_next_528 Q l1 0 H G)))))))))))))))))))))))))))))))))))
def wM_next_359 (Q : e3_H → e3_G → Prop) (s0 : Int) (H : e3_H) (G : e3_G) : Prop :=
  ∀ H1 : e3_H, H1 = e3_up H 40 3 s0 → ∀ H2 : e3_H, H2 = e3_up H1 40 6 (e3_w32 ((H1 40 6) + 1)) → (wM_next_549 Q H2 G)
def wM_next_357 (Q : e3_H → e3_G → Prop)  (H : e3_H) (G : e3_G) : Prop :=
  (wM_next_359 Q 7 H G)
def wM_next_309 (Q : e3_H → e3_G → Prop) (k256 : e3_H → e3_G → Prop) (s0 : Int) (H : e3_H) (G : e3_G) : Prop :=
  ∀ H1 : e3_H, H1 = e3_up H 40 4 s0 → ∀ H2 : e3_H, H2 = e3_up H1 40 6 (e3_w32 ((H1 40 6) + 1)) → (k256 H2 G)
def wM_next_256 (Q : e3_H → e3_G → Prop) : Nat → e3_H → e3_G → Prop
  | 0, _, _ => False
  | nn + 1, H, G => (wM_byteAt (fun x3 H1 G2 => (wM_isSmall (fun x6 H4 G5 => (((x6 : Int) = 0 → (wM_byteAt (fun x9 H7 G8 => (((x9 : Int) = 39 → (((9 : Int) < (e3_w32 ((H7 40 6) - (H7 40 2))) → (wM_next_357 Q H7 G8)) ∧ (¬ ((9 : Int) < (e3_w32 ((H7 40 6) - (H7 40 2)))) → (wM_next_359 Q 4 H7 G8)))) ∧ (¬ ((x9 : Int) = 39) → (wM_next_357 Q H7 G8)))) (H4 40 6) H4 G5)) ∧ (¬ ((x6 : Int) = 0) → ((((e3_w32 ((H4 40 6) - (H4 40 2))) : Int) < 9 → (wM_byteAt (fun x12 H10 G11 => (wM_next_309 Q (fun  H G => wM_next_256 Q nn  H G) (e3_lor (e3_lshl (H4 40 4) 8) x12) H10 G11)) (H4 40 6) H4 G5)) ∧ (¬ (((e3_w32 ((H4 40 6) - (H4 40 2))) : Int) < 9) → (wM_next_309 Q (fun  H G => wM_next_256 Q nn  H G) (H4 40 4) H4 G5)))))) x3 H1 G2)) (H 40 6) H G)
def wM_next_244 (Q : e3_H → e3_G → Prop) (s0 : Int) (H : e3_H) (G : e3_G) : Prop :=
  ∀ H1 : e3_H, H1 = e3_up H 40 3 s0 → (wM_next_549 Q H1 G)
def wM_next_207 (Q : e3_H → e3_G → Prop) (k149 : e3_H → e3_G → Prop) (s0 : Int) (H : e3_H) (G : e3_G) : Prop :=
  ∀ H1 : e3_H, H1 = e3_up H 40 4 s0 → ∀ H2 : e3_H, H2 = e3_up H1 40 6 (e3_w32 ((H1 40 6) + 1)) → (k149 H2 G)
def wM_next_149 (Q : e3_H → e3_G → Prop) : Nat → e3_H → e3_G → Prop
  | 0, _, _ => False
  | nn + 1, H, G => (wM_byteAt (fun x3 H1 G2 => (wM_isFigure (fun x6 H4 G5 => (((x6 : Int) = 0 → (((9 : Int) < (e3_w32 ((H4 40 6) - (H4 40 2))) → (wM_next_244 Q 7 H4 G5)) ∧ (¬ ((9 : Int) < (e3_w32 ((H4 40 6) - (H4 40 2)))) → (wM_next_244 Q 3 H4 G5)))) ∧ (¬ ((x6 : Int) = 0) → ((((e3_w32 ((H4 40 6) - (H4 40 2))) : Int) < 9 → (wM_byteAt (fun x9 H7 G8 => (wM_next_207 Q (fun  H G => wM_next_149 Q nn  H G) (e3_w64 ((e3_w64 ((e3_w64 (10 * (H4 40 4))) + x9)) - 48)) H7 G8)) (H4 40 6) H4 G5)) ∧ (¬ (((e3_w32 ((H4 40 6) - (H4 40 2))) : Int) < 9) → (wM_next_207 Q (fun  H G => wM_next_149 Q nn  H G) (H4 40 4) H4 G5)))))) x3 H1 G2)) (H 40 6) H G)
def wM_next_8 (Q : e3_H → e3_G → Prop) : Nat → e3_H → e3_G → Prop
  | 0, _, _ => False
  | nn + 1, H, G => (wM_byteAt (fun x3 H1 G2 => (((x3 : Int) = 32 → (wM_next_34 Q (fun  H G => wM_next_8 Q nn  H G) H1 G2)) ∧ (¬ ((x3 : Int) = 32) → (wM_byteAt (fun x6 H4 G5 => (((x6 : Int) = 10 → (wM_next_34 Q (fun  H G => wM_next_8 Q nn  H G) H4 G5)) ∧ (¬ ((x6 : Int) = 10) → ∀ H7 : e3_H, H7 = e3_up H4 40 5 (H4 40 2) → (wM_byteAt (fun x10 H8 G9 => ∀ H11 : e3_H, H11 = e3_up H8 40 4 0 → ∀ H12 : e3_H, H12 = e3_up H11 40 6 (e3_w32 ((H11 40 2) + 1)) → (((x10 : Int) = (-1) → ∀ H13 : e3_H, H13 = e3_up H12 40 3 0 → ∀ H14 : e3_H, H14 = e3_up H13 40 6 (H13 40 2) → (wM_next_549 Q H14 G9)) ∧ (¬ ((x10 : Int) = (-1)) → (wM_isSmall (fun x17 H15 G16 => (((x17 : Int) = 0 → (wM_in (fun x20 H18 G19 => (((x20 : Int) = 0 → (wM_isFigure (fun x23 H21 G22 => (((x23 : Int) = 0 → (((x10 : Int) = 39 → (∃ n, wM_next_256 Q n H21 G22)) ∧ (¬ ((x10 : Int) = 39) → (((x10 : Int) = 46 → (wM_byteAt (fun x26 H24 G25 => (((x26 : Int) = 46 → ∀ H27 : e3_H, H27 = e3_up H24 40 3 5 → ∀ H28 : e3_H, H28 = e3_up H27 40 4 256 → ∀ H29 : e3_H, H29 = e3_up H28 40 6 (e3_w32 ((H28 40 2) + 2)) → (wM_next_549 Q H29 G25)) ∧ (¬ ((x26 : Int) = 46) → (wM_next_421 Q x10 H24 G25)))) (e3_w32 ((H21 40 2) + 1)) H21 G22)) ∧ (¬ ((x10 : Int) = 46) → (wM_next_421 Q x10 H21 G22)))))) ∧ (¬ ((x23 : Int) = 0) → ∀ H30 : e3_H, H30 = e3_up H21 40 3 3 → ∀ H31 : e3_H, H31 = e3_up H30 40 6 (H30 40 2) → (∃ n, wM_next_149 Q n H31 G22)))) x10 H18 G19)) ∧ (¬ ((x20 : Int) = 0) → (wM_next_121 Q x10 H18 G19)))) x10 65 90 H15 G16)) ∧ (¬ ((x17 : Int) = 0) → (wM_next_121 Q x10 H15 G16)))) x10 H12 G9)))) (H7 40 2) H7 G5)))) (H1 40 2) H1 G2)))) (H 40 2) H G)
def wM_next (Q : e3_H → e3_G → Prop)  (H : e3_H) (G : e3_G) : Prop :=
  ∀ H1 : e3_H, H1 = e3_up H 40 2 (H 40 6) → (∃ n, wM_next_8 Q n H1 G)
set_option maxRecDepth 100000 in
set_option maxHeartbeats 4000000 in
theorem sM_next_34 (L : Nat) (xs : Nat → Int32) (Q : e3_H → e3_G → Prop) (k8 : e3_H → e3_G → Prop) (hk8 : ∀ (H : e3_H) (G : e3_G), k8  H G → e3_Ev (wB L xs) 3 67 201 8 [(2, 40), (3, 0), (3, 0)] [] H G (e3_qv Q))  (H : e3_H) (G : e3_G) (h : wM_next_34 Q k8  H G) : e3_Ev (wB L xs) 3 67 201 34 [(2, 40), (3, 0), (3, 0)] [] H G (e3_qv Q) := by
  unfold wM_next_34 at h
  refine e3_K [0, 0, 2, 0, 0, 2] 44 [(2, 40), (3, 0), (3, 0)] [] (e3_up H 40 2 (e3_w32 ((H 40 2) + 1))) (G) (wZ L xs) (M := tbM201) rfl rfl ⟨trivial, trivial, trivial⟩ ?_
  generalize hH1 : (e3_up H 40 2 (e3_w32 ((H 40 2) + 1))) = H1
  replace h := h H1 hH1.symm
  refine e3_K [0] 8 [(2, 40), (3, 0), (3, 0)] [] (H1) (G) (wZ L xs) (M := tbM201) rfl rfl trivial ?_
  exact hk8 _ _ h
set_option maxRecDepth 100000 in
set_option maxHeartbeats 4000000 in
theorem sM_next_549 (L : Nat) (xs : Nat → Int32) (Q : e3_H → e3_G → Prop)  (H : e3_H) (G : e3_G) (h : wM_next_549 Q  H G) : e3_Ev (wB L xs) 3 67 201 549 [(3, 0), (3, 0), (3, 0)] [] H G (e3_qv Q) := by
  unfold wM_next_549 at h
  exact e3_retv (M := tbM201) rfl rfl rfl ⟨rfl, h⟩
set_option maxRecDepth 100000 in
set_option maxHeartbeats 4000000 in
theorem sM_next_121 (L : Nat) (xs : Nat → Int32) (Q : e3_H → e3_G → Prop) (l1 : Int) (H : e3_H) (G : e3_G) (h : wM_next_121 Q l1 H G) : e3_Ev (wB L xs) 3 67 201 121 [(2, 40), (0, l1), (3, 0)] [] H G (e3_qv Q) := by
  unfold wM_next_121 at h
  refine e3_K [0, 0] 123 [(2, 40), (0, l1), (3, 0)] [(0, l1), (2, 40)] (H) (G) (wZ L xs) (M := tbM201) rfl rfl trivial ?_
  refine e3_call (o := 0) (k := 204) (M2 := tbM204) (f1 := 2) (w1 := 45) (as := [(2, 40), (0, l1)]) (rest := []) (M := tbM201) rfl rfl rfl trivial (Nat.le_of_ble_eq_true rfl) (Nat.le_of_ble_eq_true rfl) (Nat.le_of_ble_eq_true rfl) ?_
  refine e3_mono (sM_name L xs _ _ _ _ h) (fun r H1 G2 h => ?_)
  obtain ⟨rfl, h⟩ := h
  change e3_Ev _ _ _ _ 126 [(2, 40), (0, l1), (3, 0)] [] H1 G2 _
  refine e3_K [0] 549 [(2, 40), (0, l1), (3, 0)] [] (H1) (G2) (wZ L xs) (M := tbM201) rfl rfl trivial ?_
  refine e3_fgt [false, false, false] ?_
  exact sM_next_549 L xs Q _ _ h
set_option maxRecDepth 100000 in
set_option maxHeartbeats 4000000 in
theorem sM_next_540 (L : Nat) (xs : Nat → Int32) (Q : e3_H → e3_G → Prop) (l1 : Int) (s0 : Int) (H : e3_H) (G : e3_G) (h : wM_next_540 Q l1 s0 H G) : e3_Ev (wB L xs) 3 67 201 540 [(2, 40), (0, l1), (3, 0)] [(0, s0), (2, 40)] H G (e3_qv Q) := by
  unfold wM_next_540 at h
  refine e3_K [2] 543 [(2, 40), (0, l1), (3, 0)] [] (e3_up H 40 3 s0) (G) (wZ L xs) (M := tbM201) rfl rfl ⟨trivial, trivial⟩ ?_
  generalize hH1 : (e3_up H 40 3 s0) = H1
  replace h := h H1 hH1.symm
  refine e3_K [0, 0, 0, 2] 549 [(2, 40), (0, l1), (3, 0)] [] (e3_up H1 40 4 l1) (G) (wZ L xs) (M := tbM201) rfl rfl ⟨trivial, trivial⟩ ?_
  generalize hH2 : (e3_up H1 40 4 l1) = H2
  replace h := h H2 hH2.symm
  refine e3_fgt [false, false, false] ?_
  exact sM_next_549 L xs Q _ _ h
set_option maxRecDepth 100000 in
set_option maxHeartbeats 4000000 in
theorem sM_next_528 (L : Nat) (xs : Nat → Int32) (Q : e3_H → e3_G → Prop) (l1 : Int) (s0 : Int) (H : e3_H) (G : e3_G) (h : wM_next_528 Q l1 s0 H G) : e3_Ev (wB L xs) 3 67 201 528 [(2, 40), (0, l1), (3, 0)] [(0, s0)] H G (e3_qv Q) := by
  unfold wM_next_528 at h
  refine e3_K [0, 0, 0] 531 [(2, 40), (0, l1), (0, s0)] [(0, s0), (2, 40)] (H) (G) (wZ L xs) (M := tbM201) rfl rfl trivial ?_
  refine e3_br (M := tbM201) rfl rfl rfl Iff.rfl (fun hc => ?_) (fun hc => ?_)
  · replace h := h.1 hc
    refine e3_K [0] 540 [(2, 40), (0, l1), (0, s0)] [(0, 7), (2, 40)] (H) (G) (wZ L xs) (M := tbM201) rfl rfl trivial ?_
    refine e3_fgt [true, true, false] ?_
    exact sM_next_540 L xs Q _ _ _ _ h
  · replace h := h.2 hc
    refine e3_K [0, 0] 540 [(2, 40), (0, l1), (0, s0)] [(0, 5), (2, 40)] (H) (G) (wZ L xs) (M := tbM201) rfl rfl trivial ?_
    refine e3_fgt [true, true, false] ?_
    exact sM_next_540 L xs Q _ _ _ _ h
set_option maxRecDepth 100000 in
set_option maxHeartbeats 4000000 in
theorem sM_next_523 (L : Nat) (xs : Nat → Int32) (Q : e3_H → e3_G → Prop) (l1 : Int) (H : e3_H) (G : e3_G) (h : wM_next_523 Q l1 H G) : e3_Ev (wB L xs) 3 67 201 523 [(2, 40), (0, l1), (3, 0)] [] H G (e3_qv Q) := by
  unfold wM_next_523 at h
  refine e3_K [0, 0] 528 [(2, 40), (0, l1), (3, 0)] [(0, 1)] (H) (G) (wZ L xs) (M := tbM201) rfl rfl trivial ?_
  exact sM_next_528 L xs Q _ _ _ _ h
set_option maxRecDepth 100000 in
set_option maxHeartbeats 4000000 in
theorem sM_next_421 (L : Nat) (xs : Nat → Int32) (Q : e3_H → e3_G → Prop) (l1 : Int) (H : e3_H) (G : e3_G) (h : wM_next_421 Q l1 H G) : e3_Ev (wB L xs) 3 67 201 421 [(2, 40), (0, l1), (3, 0)] [] H G (e3_qv Q) := by
  unfold wM_next_421 at h
  refine e3_K [0, 0] 424 [(2, 40), (0, l1), (3, 0)] [(0, 59), (0, l1)] (H) (G) (wZ L xs) (M := tbM201) rfl rfl trivial ?_
  refine e3_br (M := tbM201) rfl rfl rfl Iff.rfl (fun hc => ?_) (fun hc => ?_)
  · replace h := h.1 hc
    exact sM_next_523 L xs Q _ _ _ h
  · replace h := h.2 hc
    refine e3_K [0, 0] 430 [(2, 40), (0, l1), (3, 0)] [(0, 44), (0, l1)] (H) (G) (wZ L xs) (M := tbM201) rfl rfl trivial ?_
    refine e3_br (M := tbM201) rfl rfl rfl Iff.rfl (fun hc => ?_) (fun hc => ?_)
    · replace h := h.1 hc
      exact sM_next_523 L xs Q _ _ _ h
    · replace h := h.2 hc
      refine e3_K [0, 0] 436 [(2, 40), (0, l1), (3, 0)] [(0, 40), (0, l1)] (H) (G) (wZ L xs) (M := tbM201) rfl rfl trivial ?_
      refine e3_br (M := tbM201) rfl rfl rfl Iff.rfl (fun hc => ?_) (fun hc => ?_)
      · replace h := h.1 hc
        exact sM_next_523 L xs Q _ _ _ h
      · replace h := h.2 hc
        refine e3_K [0, 0] 442 [(2, 40), (0, l1), (3, 0)] [(0, 41), (0, l1)] (H) (G) (wZ L xs) (M := tbM201) rfl rfl trivial ?_
        refine e3_br (M := tbM201) rfl rfl rfl Iff.rfl (fun hc => ?_) (fun hc => ?_)
        · replace h := h.1 hc
          exact sM_next_523 L xs Q _ _ _ h
        · replace h := h.2 hc
          refine e3_K [0, 0] 448 [(2, 40), (0, l1), (3, 0)] [(0, 123), (0, l1)] (H) (G) (wZ L xs) (M := tbM201) rfl rfl trivial ?_
          refine e3_br (M := tbM201) rfl rfl rfl Iff.rfl (fun hc => ?_) (fun hc => ?_)
          · replace h := h.1 hc
            exact sM_next_523 L xs Q _ _ _ h
          · replace h := h.2 hc
            refine e3_K [0, 0] 454 [(2, 40), (0, l1), (3, 0)] [(0, 125), (0, l1)] (H) (G) (wZ L xs) (M := tbM201) rfl rfl trivial ?_
            refine e3_br (M := tbM201) rfl rfl rfl Iff.rfl (fun hc => ?_) (fun hc => ?_)
            · replace h := h.1 hc
              exact sM_next_523 L xs Q _ _ _ h
            · replace h := h.2 hc
              refine e3_K [0, 0] 460 [(2, 40), (0, l1), (3, 0)] [(0, 58), (0, l1)] (H) (G) (wZ L xs) (M := tbM201) rfl rfl trivial ?_
              refine e3_br (M := tbM201) rfl rfl rfl Iff.rfl (fun hc => ?_) (fun hc => ?_)
              · replace h := h.1 hc
                exact sM_next_523 L xs Q _ _ _ h
              · replace h := h.2 hc
                refine e3_K [0, 0] 466 [(2, 40), (0, l1), (3, 0)] [(0, 124), (0, l1)] (H) (G) (wZ L xs) (M := tbM201) rfl rfl trivial ?_
                refine e3_br (M := tbM201) rfl rfl rfl Iff.rfl (fun hc => ?_) (fun hc => ?_)
                · replace h := h.1 hc
                  exact sM_next_523 L xs Q _ _ _ h
                · replace h := h.2 hc
                  refine e3_K [0, 0] 472 [(2, 40), (0, l1), (3, 0)] [(0, 95), (0, l1)] (H) (G) (wZ L xs) (M := tbM201) rfl rfl trivial ?_
                  refine e3_br (M := tbM201) rfl rfl rfl Iff.rfl (fun hc => ?_) (fun hc => ?_)
                  · replace h := h.1 hc
                    exact sM_next_523 L xs Q _ _ _ h
                  · replace h := h.2 hc
                    refine e3_K [0, 0] 478 [(2, 40), (0, l1), (3, 0)] [(0, 60), (0, l1)] (H) (G) (wZ L xs) (M := tbM201) rfl rfl trivial ?_
                    refine e3_br (M := tbM201) rfl rfl rfl Iff.rfl (fun hc => ?_) (fun hc => ?_)
                    · replace h := h.1 hc
                      exact sM_next_523 L xs Q _ _ _ h
                    · replace h := h.2 hc
                      refine e3_K [0, 0] 484 [(2, 40), (0, l1), (3, 0)] [(0, 61), (0, l1)] (H) (G) (wZ L xs) (M := tbM201) rfl rfl trivial ?_
                      refine e3_br (M := tbM201) rfl rfl rfl Iff.rfl (fun hc => ?_) (fun hc => ?_)
                      · replace h := h.1 hc
                        exact sM_next_523 L xs Q _ _ _ h
                      · replace h := h.2 hc
                        refine e3_K [0, 0] 490 [(2, 40), (0, l1), (3, 0)] [(0, 62), (0, l1)] (H) (G) (wZ L xs) (M := tbM201) rfl rfl trivial ?_
                        refine e3_br (M := tbM201) rfl rfl rfl Iff.rfl (fun hc => ?_) (fun hc => ?_)
                        · replace h := h.1 hc
                          exact sM_next_523 L xs Q _ _ _ h
                        · replace h := h.2 hc
                          refine e3_K [0, 0] 496 [(2, 40), (0, l1), (3, 0)] [(0, 43), (0, l1)] (H) (G) (wZ L xs) (M := tbM201) rfl rfl trivial ?_
                          refine e3_br (M := tbM201) rfl rfl rfl Iff.rfl (fun hc => ?_) (fun hc => ?_)
                          · replace h := h.1 hc
                            exact sM_next_523 L xs Q _ _ _ h
                          · replace h := h.2 hc
                            refine e3_K [0, 0] 502 [(2, 40), (0, l1), (3, 0)] [(0, 45), (0, l1)] (H) (G) (wZ L xs) (M := tbM201) rfl rfl trivial ?_
                            refine e3_br (M := tbM201) rfl rfl rfl Iff.rfl (fun hc => ?_) (fun hc => ?_)
                            · replace h := h.1 hc
                              exact sM_next_523 L xs Q _ _ _ h
                            · replace h := h.2 hc
                              refine e3_K [0, 0] 508 [(2, 40), (0, l1), (3, 0)] [(0, 42), (0, l1)] (H) (G) (wZ L xs) (M := tbM201) rfl rfl trivial ?_
                              refine e3_br (M := tbM201) rfl rfl rfl Iff.rfl (fun hc => ?_) (fun hc => ?_)
                              · replace h := h.1 hc
                                exact sM_next_523 L xs Q _ _ _ h
                              · replace h := h.2 hc
                                refine e3_K [0, 0] 514 [(2, 40), (0, l1), (3, 0)] [(0, 47), (0, l1)] (H) (G) (wZ L xs) (M := tbM201) rfl rfl trivial ?_
                                refine e3_br (M := tbM201) rfl rfl rfl Iff.rfl (fun hc => ?_) (fun hc => ?_)
                                · replace h := h.1 hc
                                  exact sM_next_523 L xs Q _ _ _ h
                                · replace h := h.2 hc
                                  refine e3_K [0, 0] 520 [(2, 40), (0, l1), (3, 0)] [(0, 37), (0, l1)] (H) (G) (wZ L xs) (M := tbM201) rfl rfl trivial ?_
                                  refine e3_br (M := tbM201) rfl rfl rfl Iff.rfl (fun hc => ?_) (fun hc => ?_)
                                  · replace h := h.1 hc
                                    exact sM_next_523 L xs Q _ _ _ h
                                  · replace h := h.2 hc
                                    refine e3_K [0] 528 [(2, 40), (0, l1), (3, 0)] [(0, 0)] (H) (G) (wZ L xs) (M := tbM201) rfl rfl trivial ?_
                                    exact sM_next_528 L xs Q _ _ _ _ h
set_option maxRecDepth 100000 in
set_option maxHeartbeats 4000000 in
theorem sM_next_359 (L : Nat) (xs : Nat → Int32) (Q : e3_H → e3_G → Prop) (s0 : Int) (H : e3_H) (G : e3_G) (h : wM_next_359 Q s0 H G) : e3_Ev (wB L xs) 3 67 201 359 [(2, 40), (3, 0), (3, 0)] [(0, s0), (2, 40)] H G (e3_qv Q) := by
  unfold wM_next_359 at h
  refine e3_K [2] 362 [(2, 40), (3, 0), (3, 0)] [] (e3_up H 40 3 s0) (G) (wZ L xs) (M := tbM201) rfl rfl ⟨trivial, trivial⟩ ?_
  generalize hH1 : (e3_up H 40 3 s0) = H1
  replace h := h H1 hH1.symm
  refine e3_K [0, 0, 2, 0, 0, 2] 372 [(2, 40), (3, 0), (3, 0)] [] (e3_up H1 40 6 (e3_w32 ((H1 40 6) + 1))) (G) (wZ L xs) (M := tbM201) rfl rfl ⟨trivial, trivial, trivial⟩ ?_
  generalize hH2 : (e3_up H1 40 6 (e3_w32 ((H1 40 6) + 1))) = H2
  replace h := h H2 hH2.symm
  refine e3_K [0] 549 [(2, 40), (3, 0), (3, 0)] [] (H2) (G) (wZ L xs) (M := tbM201) rfl rfl trivial ?_
  refine e3_fgt [false, false, false] ?_
  exact sM_next_549 L xs Q _ _ h
set_option maxRecDepth 100000 in
set_option maxHeartbeats 4000000 in
theorem sM_next_357 (L : Nat) (xs : Nat → Int32) (Q : e3_H → e3_G → Prop)  (H : e3_H) (G : e3_G) (h : wM_next_357 Q  H G) : e3_Ev (wB L xs) 3 67 201 357 [(2, 40), (3, 0), (3, 0)] [(2, 40)] H G (e3_qv Q) := by
  unfold wM_next_357 at h
  refine e3_K [0] 359 [(2, 40), (3, 0), (3, 0)] [(0, 7), (2, 40)] (H) (G) (wZ L xs) (M := tbM201) rfl rfl trivial ?_
  exact sM_next_359 L xs Q _ _ _ h
set_option maxRecDepth 100000 in
set_option maxHeartbeats 4000000 in
theorem sM_next_309 (L : Nat) (xs : Nat → Int32) (Q : e3_H → e3_G → Prop) (k256 : e3_H → e3_G → Prop) (hk256 : ∀ (H : e3_H) (G : e3_G), k256  H G → e3_Ev (wB L xs) 3 67 201 256 [(2, 40), (3, 0), (3, 0)] [] H G (e3_qv Q)) (s0 : Int) (H : e3_H) (G : e3_G) (h : wM_next_309 Q k256 s0 H G) : e3_Ev (wB L xs) 3 67 201 309 [(2, 40), (3, 0), (3, 0)] [(1, s0), (2, 40)] H G (e3_qv Q) := by
  unfold wM_next_309 at h
  refine e3_K [2] 312 [(2, 40), (3, 0), (3, 0)] [] (e3_up H 40 4 s0) (G) (wZ L xs) (M := tbM201) rfl rfl ⟨trivial, trivial⟩ ?_
  generalize hH1 : (e3_up H 40 4 s0) = H1
  replace h := h H1 hH1.symm
  refine e3_K [0, 0, 2, 0, 0, 2] 322 [(2, 40), (3, 0), (3, 0)] [] (e3_up H1 40 6 (e3_w32 ((H1 40 6) + 1))) (G) (wZ L xs) (M := tbM201) rfl rfl ⟨trivial, trivial, trivial⟩ ?_
  generalize hH2 : (e3_up H1 40 6 (e3_w32 ((H1 40 6) + 1))) = H2
  replace h := h H2 hH2.symm
  refine e3_K [0] 256 [(2, 40), (3, 0), (3, 0)] [] (H2) (G) (wZ L xs) (M := tbM201) rfl rfl trivial ?_
  exact hk256 _ _ h
set_option maxRecDepth 100000 in
set_option maxHeartbeats 4000000 in
theorem sM_next_256 (L : Nat) (xs : Nat → Int32) (Q : e3_H → e3_G → Prop) : ∀ (nl : Nat) (H : e3_H) (G : e3_G), wM_next_256 Q nl  H G → e3_Ev (wB L xs) 3 67 201 256 [(2, 40), (3, 0), (3, 0)] [] H G (e3_qv Q) := by
  intro nl
  induction nl with
  | zero => intro  H G h; exact h.elim
  | succ nn ih =>
    intro  H G h
    have h : (wM_byteAt (fun x3 H1 G2 => (wM_isSmall (fun x6 H4 G5 => (((x6 : Int) = 0 → (wM_byteAt (fun x9 H7 G8 => (((x9 : Int) = 39 → (((9 : Int) < (e3_w32 ((H7 40 6) - (H7 40 2))) → (wM_next_357 Q H7 G8)) ∧ (¬ ((9 : Int) < (e3_w32 ((H7 40 6) - (H7 40 2)))) → (wM_next_359 Q 4 H7 G8)))) ∧ (¬ ((x9 : Int) = 39) → (wM_next_357 Q H7 G8)))) (H4 40 6) H4 G5)) ∧ (¬ ((x6 : Int) = 0) → ((((e3_w32 ((H4 40 6) - (H4 40 2))) : Int) < 9 → (wM_byteAt (fun x12 H10 G11 => (wM_next_309 Q (fun  H G => wM_next_256 Q nn  H G) (e3_lor (e3_lshl (H4 40 4) 8) x12) H10 G11)) (H4 40 6) H4 G5)) ∧ (¬ (((e3_w32 ((H4 40 6) - (H4 40 2))) : Int) < 9) → (wM_next_309 Q (fun  H G => wM_next_256 Q nn  H G) (H4 40 4) H4 G5)))))) x3 H1 G2)) (H 40 6) H G) := h
    refine e3_K [0, 0, 2] 261 [(2, 40), (3, 0), (3, 0)] [(0, (H 40 6)), (2, 40)] (H) (G) (wZ L xs) (M := tbM201) rfl rfl ⟨trivial, trivial⟩ ?_
    refine e3_call (o := 0) (k := 202) (M2 := tbM202) (f1 := 0) (w1 := 0) (as := [(2, 40), (0, (H 40 6))]) (rest := []) (M := tbM201) rfl rfl rfl trivial (Nat.le_of_ble_eq_true rfl) (Nat.le_of_ble_eq_true rfl) (Nat.le_of_ble_eq_true rfl) ?_
    refine e3_mono (sM_byteAt L xs _ _ _ _ h) (fun r H1 G2 h => ?_)
    obtain ⟨x3, rfl, h⟩ := h
    change e3_Ev _ _ _ _ 264 [(2, 40), (3, 0), (3, 0)] [(0, x3)] H1 G2 _
    refine e3_call (o := 0) (k := 203) (M2 := tbM203) (f1 := 1) (w1 := 25) (as := [(0, x3)]) (rest := []) (M := tbM201) rfl rfl rfl trivial (Nat.le_of_ble_eq_true rfl) (Nat.le_of_ble_eq_true rfl) (Nat.le_of_ble_eq_true rfl) ?_
    refine e3_mono (sM_isSmall L xs _ _ _ _ h) (fun r H4 G5 h => ?_)
    obtain ⟨x6, rfl, h⟩ := h
    change e3_Ev _ _ _ _ 267 [(2, 40), (3, 0), (3, 0)] [(0, x6)] H4 G5 _
    refine e3_br (M := tbM201) rfl rfl rfl Iff.rfl (fun hc => ?_) (fun hc => ?_)
    · replace h := h.1 hc
      refine e3_K [0, 0, 0, 2] 331 [(2, 40), (3, 0), (3, 0)] [(0, (H4 40 6)), (2, 40), (2, 40)] (H4) (G5) (wZ L xs) (M := tbM201) rfl rfl ⟨trivial, trivial⟩ ?_
      refine e3_call (o := 0) (k := 202) (M2 := tbM202) (f1 := 0) (w1 := 0) (as := [(2, 40), (0, (H4 40 6))]) (rest := [(2, 40)]) (M := tbM201) rfl rfl rfl trivial (Nat.le_of_ble_eq_true rfl) (Nat.le_of_ble_eq_true rfl) (Nat.le_of_ble_eq_true rfl) ?_
      refine e3_mono (sM_byteAt L xs _ _ _ _ h) (fun r H7 G8 h => ?_)
      obtain ⟨x9, rfl, h⟩ := h
      change e3_Ev _ _ _ _ 334 [(2, 40), (3, 0), (3, 0)] [(0, x9), (2, 40)] H7 G8 _
      refine e3_K [0] 336 [(2, 40), (3, 0), (3, 0)] [(0, 39), (0, x9), (2, 40)] (H7) (G8) (wZ L xs) (M := tbM201) rfl rfl trivial ?_
      refine e3_br (M := tbM201) rfl rfl rfl Iff.rfl (fun hc => ?_) (fun hc => ?_)
      · replace h := h.1 hc
        refine e3_K [0, 2, 0, 2, 0, 0] 350 [(2, 40), (3, 0), (3, 0)] [(0, 9), (0, (e3_w32 ((H7 40 6) - (H7 40 2)))), (2, 40)] (H7) (G8) (wZ L xs) (M := tbM201) rfl rfl ⟨trivial, trivial, trivial⟩ ?_
        refine e3_br (M := tbM201) rfl rfl rfl Iff.rfl (fun hc => ?_) (fun hc => ?_)
        · replace h := h.1 hc
          exact sM_next_357 L xs Q _ _ h
        · replace h := h.2 hc
          refine e3_K [0, 0] 359 [(2, 40), (3, 0), (3, 0)] [(0, 4), (2, 40)] (H7) (G8) (wZ L xs) (M := tbM201) rfl rfl trivial ?_
          exact sM_next_359 L xs Q _ _ _ h
      · replace h := h.2 hc
        exact sM_next_357 L xs Q _ _ h
    · replace h := h.2 hc
      refine e3_K [0, 0, 2, 0, 2, 0, 0] 282 [(2, 40), (3, 0), (3, 0)] [(0, 9), (0, (e3_w32 ((H4 40 6) - (H4 40 2)))), (2, 40)] (H4) (G5) (wZ L xs) (M := tbM201) rfl rfl ⟨trivial, trivial, trivial⟩ ?_
      refine e3_br (M := tbM201) rfl rfl rfl Iff.rfl (fun hc => ?_) (fun hc => ?_)
      · replace h := h.1 hc
        refine e3_K [0, 2, 0, 0, 0, 0, 2] 297 [(2, 40), (3, 0), (3, 0)] [(0, (H4 40 6)), (2, 40), (1, (e3_lshl (H4 40 4) 8)), (2, 40)] (H4) (G5) (wZ L xs) (M := tbM201) rfl rfl ⟨trivial, trivial, trivial⟩ ?_
        refine e3_call (o := 0) (k := 202) (M2 := tbM202) (f1 := 0) (w1 := 0) (as := [(2, 40), (0, (H4 40 6))]) (rest := [(1, (e3_lshl (H4 40 4) 8)), (2, 40)]) (M := tbM201) rfl rfl rfl trivial (Nat.le_of_ble_eq_true rfl) (Nat.le_of_ble_eq_true rfl) (Nat.le_of_ble_eq_true rfl) ?_
        refine e3_mono (sM_byteAt L xs _ _ _ _ h) (fun r H10 G11 h => ?_)
        obtain ⟨x12, rfl, h⟩ := h
        change e3_Ev _ _ _ _ 300 [(2, 40), (3, 0), (3, 0)] [(0, x12), (1, (e3_lshl (H4 40 4) 8)), (2, 40)] H10 G11 _
        refine e3_K [0, 0, 0] 309 [(2, 40), (3, 0), (3, 0)] [(1, (e3_lor (e3_lshl (H4 40 4) 8) x12)), (2, 40)] (H10) (G11) (wZ L xs) (M := tbM201) rfl rfl trivial ?_
        exact sM_next_309 L xs Q (fun  H G => wM_next_256 Q nn  H G) ih _ _ _ h
      · replace h := h.2 hc
        refine e3_K [0, 2] 309 [(2, 40), (3, 0), (3, 0)] [(1, (H4 40 4)), (2, 40)] (H4) (G5) (wZ L xs) (M := tbM201) rfl rfl ⟨trivial, trivial⟩ ?_
        exact sM_next_309 L xs Q (fun  H G => wM_next_256 Q nn  H G) ih _ _ _ h
set_option maxRecDepth 100000 in
set_option maxHeartbeats 4000000 in
theorem sM_next_244 (L : Nat) (xs : Nat → Int32) (Q : e3_H → e3_G → Prop) (s0 : Int) (H : e3_H) (G : e3_G) (h : wM_next_244 Q s0 H G) : e3_Ev (wB L xs) 3 67 201 244 [(3, 0), (3, 0), (3, 0)] [(0, s0), (2, 40)] H G (e3_qv Q) := by
  unfold wM_next_244 at h
  refine e3_K [2] 247 [(3, 0), (3, 0), (3, 0)] [] (e3_up H 40 3 s0) (G) (wZ L xs) (M := tbM201) rfl rfl ⟨trivial, trivial⟩ ?_
  generalize hH1 : (e3_up H 40 3 s0) = H1
  replace h := h H1 hH1.symm
  refine e3_K [0] 549 [(3, 0), (3, 0), (3, 0)] [] (H1) (G) (wZ L xs) (M := tbM201) rfl rfl trivial ?_
  exact sM_next_549 L xs Q _ _ h
set_option maxRecDepth 100000 in
set_option maxHeartbeats 4000000 in
theorem sM_next_207 (L : Nat) (xs : Nat → Int32) (Q : e3_H → e3_G → Prop) (k149 : e3_H → e3_G → Prop) (hk149 : ∀ (H : e3_H) (G : e3_G), k149  H G → e3_Ev (wB L xs) 3 67 201 149 [(2, 40), (3, 0), (3, 0)] [] H G (e3_qv Q)) (s0 : Int) (H : e3_H) (G : e3_G) (h : wM_next_207 Q k149 s0 H G) : e3_Ev (wB L xs) 3 67 201 207 [(2, 40), (3, 0), (3, 0)] [(1, s0), (2, 40)] H G (e3_qv Q) := by
  unfold wM_next_207 at h
  refine e3_K [2] 210 [(2, 40), (3, 0), (3, 0)] [] (e3_up H 40 4 s0) (G) (wZ L xs) (M := tbM201) rfl rfl ⟨trivial, trivial⟩ ?_
  generalize hH1 : (e3_up H 40 4 s0) = H1
  replace h := h H1 hH1.symm
  refine e3_K [0, 0, 2, 0, 0, 2] 220 [(2, 40), (3, 0), (3, 0)] [] (e3_up H1 40 6 (e3_w32 ((H1 40 6) + 1))) (G) (wZ L xs) (M := tbM201) rfl rfl ⟨trivial, trivial, trivial⟩ ?_
  generalize hH2 : (e3_up H1 40 6 (e3_w32 ((H1 40 6) + 1))) = H2
  replace h := h H2 hH2.symm
  refine e3_K [0] 149 [(2, 40), (3, 0), (3, 0)] [] (H2) (G) (wZ L xs) (M := tbM201) rfl rfl trivial ?_
  exact hk149 _ _ h
set_option maxRecDepth 100000 in
set_option maxHeartbeats 4000000 in
theorem sM_next_149 (L : Nat) (xs : Nat → Int32) (Q : e3_H → e3_G → Prop) : ∀ (nl : Nat) (H : e3_H) (G : e3_G), wM_next_149 Q nl  H G → e3_Ev (wB L xs) 3 67 201 149 [(2, 40), (3, 0), (3, 0)] [] H G (e3_qv Q) := by
  intro nl
  induction nl with
  | zero => intro  H G h; exact h.elim
  | succ nn ih =>
    intro  H G h
    have h : (wM_byteAt (fun x3 H1 G2 => (wM_isFigure (fun x6 H4 G5 => (((x6 : Int) = 0 → (((9 : Int) < (e3_w32 ((H4 40 6) - (H4 40 2))) → (wM_next_244 Q 7 H4 G5)) ∧ (¬ ((9 : Int) < (e3_w32 ((H4 40 6) - (H4 40 2)))) → (wM_next_244 Q 3 H4 G5)))) ∧ (¬ ((x6 : Int) = 0) → ((((e3_w32 ((H4 40 6) - (H4 40 2))) : Int) < 9 → (wM_byteAt (fun x9 H7 G8 => (wM_next_207 Q (fun  H G => wM_next_149 Q nn  H G) (e3_w64 ((e3_w64 ((e3_w64 (10 * (H4 40 4))) + x9)) - 48)) H7 G8)) (H4 40 6) H4 G5)) ∧ (¬ (((e3_w32 ((H4 40 6) - (H4 40 2))) : Int) < 9) → (wM_next_207 Q (fun  H G => wM_next_149 Q nn  H G) (H4 40 4) H4 G5)))))) x3 H1 G2)) (H 40 6) H G) := h
    refine e3_K [0, 0, 2] 154 [(2, 40), (3, 0), (3, 0)] [(0, (H 40 6)), (2, 40)] (H) (G) (wZ L xs) (M := tbM201) rfl rfl ⟨trivial, trivial⟩ ?_
    refine e3_call (o := 0) (k := 202) (M2 := tbM202) (f1 := 0) (w1 := 0) (as := [(2, 40), (0, (H 40 6))]) (rest := []) (M := tbM201) rfl rfl rfl trivial (Nat.le_of_ble_eq_true rfl) (Nat.le_of_ble_eq_true rfl) (Nat.le_of_ble_eq_true rfl) ?_
    refine e3_mono (sM_byteAt L xs _ _ _ _ h) (fun r H1 G2 h => ?_)
    obtain ⟨x3, rfl, h⟩ := h
    change e3_Ev _ _ _ _ 157 [(2, 40), (3, 0), (3, 0)] [(0, x3)] H1 G2 _
    refine e3_call (o := 0) (k := 205) (M2 := tbM205) (f1 := 1) (w1 := 25) (as := [(0, x3)]) (rest := []) (M := tbM201) rfl rfl rfl trivial (Nat.le_of_ble_eq_true rfl) (Nat.le_of_ble_eq_true rfl) (Nat.le_of_ble_eq_true rfl) ?_
    refine e3_mono (sM_isFigure L xs _ _ _ _ h) (fun r H4 G5 h => ?_)
    obtain ⟨x6, rfl, h⟩ := h
    change e3_Ev _ _ _ _ 160 [(2, 40), (3, 0), (3, 0)] [(0, x6)] H4 G5 _
    refine e3_br (M := tbM201) rfl rfl rfl Iff.rfl (fun hc => ?_) (fun hc => ?_)
    · replace h := h.1 hc
      refine e3_K [0, 0, 2, 0, 2, 0, 0] 235 [(2, 40), (3, 0), (3, 0)] [(0, 9), (0, (e3_w32 ((H4 40 6) - (H4 40 2)))), (2, 40)] (H4) (G5) (wZ L xs) (M := tbM201) rfl rfl ⟨trivial, trivial, trivial⟩ ?_
      refine e3_br (M := tbM201) rfl rfl rfl Iff.rfl (fun hc => ?_) (fun hc => ?_)
      · replace h := h.1 hc
        refine e3_K [0, 0] 244 [(2, 40), (3, 0), (3, 0)] [(0, 7), (2, 40)] (H4) (G5) (wZ L xs) (M := tbM201) rfl rfl trivial ?_
        refine e3_fgt [false, false, false] ?_
        exact sM_next_244 L xs Q _ _ _ h
      · replace h := h.2 hc
        refine e3_K [0] 244 [(2, 40), (3, 0), (3, 0)] [(0, 3), (2, 40)] (H4) (G5) (wZ L xs) (M := tbM201) rfl rfl trivial ?_
        refine e3_fgt [false, false, false] ?_
        exact sM_next_244 L xs Q _ _ _ h
    · replace h := h.2 hc
      refine e3_K [0, 0, 2, 0, 2, 0, 0] 175 [(2, 40), (3, 0), (3, 0)] [(0, 9), (0, (e3_w32 ((H4 40 6) - (H4 40 2)))), (2, 40)] (H4) (G5) (wZ L xs) (M := tbM201) rfl rfl ⟨trivial, trivial, trivial⟩ ?_
      refine e3_br (M := tbM201) rfl rfl rfl Iff.rfl (fun hc => ?_) (fun hc => ?_)
      · replace h := h.1 hc
        refine e3_K [2, 0, 2, 0, 0, 0, 2] 191 [(2, 40), (3, 0), (3, 0)] [(0, (H4 40 6)), (2, 40), (1, (e3_w64 (10 * (H4 40 4)))), (2, 40)] (H4) (G5) (wZ L xs) (M := tbM201) rfl rfl ⟨trivial, trivial, trivial, trivial⟩ ?_
        refine e3_call (o := 0) (k := 202) (M2 := tbM202) (f1 := 0) (w1 := 0) (as := [(2, 40), (0, (H4 40 6))]) (rest := [(1, (e3_w64 (10 * (H4 40 4)))), (2, 40)]) (M := tbM201) rfl rfl rfl trivial (Nat.le_of_ble_eq_true rfl) (Nat.le_of_ble_eq_true rfl) (Nat.le_of_ble_eq_true rfl) ?_
        refine e3_mono (sM_byteAt L xs _ _ _ _ h) (fun r H7 G8 h => ?_)
        obtain ⟨x9, rfl, h⟩ := h
        change e3_Ev _ _ _ _ 194 [(2, 40), (3, 0), (3, 0)] [(0, x9), (1, (e3_w64 (10 * (H4 40 4)))), (2, 40)] H7 G8 _
        refine e3_K [0, 0, 2, 0, 0] 207 [(2, 40), (3, 0), (3, 0)] [(1, (e3_w64 ((e3_w64 ((e3_w64 (10 * (H4 40 4))) + x9)) - 48))), (2, 40)] (H7) (G8) (wZ L xs) (M := tbM201) rfl rfl ⟨trivial, trivial⟩ ?_
        exact sM_next_207 L xs Q (fun  H G => wM_next_149 Q nn  H G) ih _ _ _ h
      · replace h := h.2 hc
        refine e3_K [0, 2] 207 [(2, 40), (3, 0), (3, 0)] [(1, (H4 40 4)), (2, 40)] (H4) (G5) (wZ L xs) (M := tbM201) rfl rfl ⟨trivial, trivial⟩ ?_
        exact sM_next_207 L xs Q (fun  H G => wM_next_149 Q nn  H G) ih _ _ _ h
set_option maxRecDepth 100000 in
set_option maxHeartbeats 4000000 in
theorem sM_next_8 (L : Nat) (xs : Nat → Int32) (Q : e3_H → e3_G → Prop) : ∀ (nl : Nat) (H : e3_H) (G : e3_G), wM_next_8 Q nl  H G → e3_Ev (wB L xs) 3 67 201 8 [(2, 40), (3, 0), (3, 0)] [] H G (e3_qv Q) := by
  intro nl
  induction nl with
  | zero => intro  H G h; exact h.elim
  | succ nn ih =>
    intro  H G h
    have h : (wM_byteAt (fun x3 H1 G2 => (((x3 : Int) = 32 → (wM_next_34 Q (fun  H G => wM_next_8 Q nn  H G) H1 G2)) ∧ (¬ ((x3 : Int) = 32) → (wM_byteAt (fun x6 H4 G5 => (((x6 : Int) = 10 → (wM_next_34 Q (fun  H G => wM_next_8 Q nn  H G) H4 G5)) ∧ (¬ ((x6 : Int) = 10) → ∀ H7 : e3_H, H7 = e3_up H4 40 5 (H4 40 2) → (wM_byteAt (fun x10 H8 G9 => ∀ H11 : e3_H, H11 = e3_up H8 40 4 0 → ∀ H12 : e3_H, H12 = e3_up H11 40 6 (e3_w32 ((H11 40 2) + 1)) → (((x10 : Int) = (-1) → ∀ H13 : e3_H, H13 = e3_up H12 40 3 0 → ∀ H14 : e3_H, H14 = e3_up H13 40 6 (H13 40 2) → (wM_next_549 Q H14 G9)) ∧ (¬ ((x10 : Int) = (-1)) → (wM_isSmall (fun x17 H15 G16 => (((x17 : Int) = 0 → (wM_in (fun x20 H18 G19 => (((x20 : Int) = 0 → (wM_isFigure (fun x23 H21 G22 => (((x23 : Int) = 0 → (((x10 : Int) = 39 → (∃ n, wM_next_256 Q n H21 G22)) ∧ (¬ ((x10 : Int) = 39) → (((x10 : Int) = 46 → (wM_byteAt (fun x26 H24 G25 => (((x26 : Int) = 46 → ∀ H27 : e3_H, H27 = e3_up H24 40 3 5 → ∀ H28 : e3_H, H28 = e3_up H27 40 4 256 → ∀ H29 : e3_H, H29 = e3_up H28 40 6 (e3_w32 ((H28 40 2) + 2)) → (wM_next_549 Q H29 G25)) ∧ (¬ ((x26 : Int) = 46) → (wM_next_421 Q x10 H24 G25)))) (e3_w32 ((H21 40 2) + 1)) H21 G22)) ∧ (¬ ((x10 : Int) = 46) → (wM_next_421 Q x10 H21 G22)))))) ∧ (¬ ((x23 : Int) = 0) → ∀ H30 : e3_H, H30 = e3_up H21 40 3 3 → ∀ H31 : e3_H, H31 = e3_up H30 40 6 (H30 40 2) → (∃ n, wM_next_149 Q n H31 G22)))) x10 H18 G19)) ∧ (¬ ((x20 : Int) = 0) → (wM_next_121 Q x10 H18 G19)))) x10 65 90 H15 G16)) ∧ (¬ ((x17 : Int) = 0) → (wM_next_121 Q x10 H15 G16)))) x10 H12 G9)))) (H7 40 2) H7 G5)))) (H1 40 2) H1 G2)))) (H 40 2) H G) := h
    refine e3_K [0, 0, 2] 13 [(2, 40), (3, 0), (3, 0)] [(0, (H 40 2)), (2, 40)] (H) (G) (wZ L xs) (M := tbM201) rfl rfl ⟨trivial, trivial⟩ ?_
    refine e3_call (o := 0) (k := 202) (M2 := tbM202) (f1 := 0) (w1 := 0) (as := [(2, 40), (0, (H 40 2))]) (rest := []) (M := tbM201) rfl rfl rfl trivial (Nat.le_of_ble_eq_true rfl) (Nat.le_of_ble_eq_true rfl) (Nat.le_of_ble_eq_true rfl) ?_
    refine e3_mono (sM_byteAt L xs _ _ _ _ h) (fun r H1 G2 h => ?_)
    obtain ⟨x3, rfl, h⟩ := h
    change e3_Ev _ _ _ _ 16 [(2, 40), (3, 0), (3, 0)] [(0, x3)] H1 G2 _
    refine e3_K [0] 18 [(2, 40), (3, 0), (3, 0)] [(0, 32), (0, x3)] (H1) (G2) (wZ L xs) (M := tbM201) rfl rfl trivial ?_
    refine e3_br (M := tbM201) rfl rfl rfl Iff.rfl (fun hc => ?_) (fun hc => ?_)
    · replace h := h.1 hc
      exact sM_next_34 L xs Q (fun  H G => wM_next_8 Q nn  H G) ih _ _ h
    · replace h := h.2 hc
      refine e3_K [0, 0, 2] 26 [(2, 40), (3, 0), (3, 0)] [(0, (H1 40 2)), (2, 40)] (H1) (G2) (wZ L xs) (M := tbM201) rfl rfl ⟨trivial, trivial⟩ ?_
      refine e3_call (o := 0) (k := 202) (M2 := tbM202) (f1 := 0) (w1 := 0) (as := [(2, 40), (0, (H1 40 2))]) (rest := []) (M := tbM201) rfl rfl rfl trivial (Nat.le_of_ble_eq_true rfl) (Nat.le_of_ble_eq_true rfl) (Nat.le_of_ble_eq_true rfl) ?_
      refine e3_mono (sM_byteAt L xs _ _ _ _ h) (fun r H4 G5 h => ?_)
      obtain ⟨x6, rfl, h⟩ := h
      change e3_Ev _ _ _ _ 29 [(2, 40), (3, 0), (3, 0)] [(0, x6)] H4 G5 _
      refine e3_K [0] 31 [(2, 40), (3, 0), (3, 0)] [(0, 10), (0, x6)] (H4) (G5) (wZ L xs) (M := tbM201) rfl rfl trivial ?_
      refine e3_br (M := tbM201) rfl rfl rfl Iff.rfl (fun hc => ?_) (fun hc => ?_)
      · replace h := h.1 hc
        exact sM_next_34 L xs Q (fun  H G => wM_next_8 Q nn  H G) ih _ _ h
      · replace h := h.2 hc
        refine e3_K [0, 0, 2, 2] 55 [(2, 40), (3, 0), (3, 0)] [] (e3_up H4 40 5 (H4 40 2)) (G5) (wZ L xs) (M := tbM201) rfl rfl ⟨trivial, trivial, trivial⟩ ?_
        generalize hH7 : (e3_up H4 40 5 (H4 40 2)) = H7
        replace h := h H7 hH7.symm
        refine e3_K [0, 0, 2] 60 [(2, 40), (3, 0), (3, 0)] [(0, (H7 40 2)), (2, 40)] (H7) (G5) (wZ L xs) (M := tbM201) rfl rfl ⟨trivial, trivial⟩ ?_
        refine e3_call (o := 0) (k := 202) (M2 := tbM202) (f1 := 0) (w1 := 0) (as := [(2, 40), (0, (H7 40 2))]) (rest := []) (M := tbM201) rfl rfl rfl trivial (Nat.le_of_ble_eq_true rfl) (Nat.le_of_ble_eq_true rfl) (Nat.le_of_ble_eq_true rfl) ?_
        refine e3_mono (sM_byteAt L xs _ _ _ _ h) (fun r H8 G9 h => ?_)
        obtain ⟨x10, rfl, h⟩ := h
        change e3_Ev _ _ _ _ 63 [(2, 40), (3, 0), (3, 0)] [(0, x10)] H8 G9 _
        refine e3_K [0, 0, 0, 2] 69 [(2, 40), (0, x10), (3, 0)] [] (e3_up H8 40 4 0) (G9) (wZ L xs) (M := tbM201) rfl rfl ⟨trivial, trivial⟩ ?_
        generalize hH11 : (e3_up H8 40 4 0) = H11
        replace h := h H11 hH11.symm
        refine e3_K [0, 0, 2, 0, 0, 2] 79 [(2, 40), (0, x10), (3, 0)] [] (e3_up H11 40 6 (e3_w32 ((H11 40 2) + 1))) (G9) (wZ L xs) (M := tbM201) rfl rfl ⟨trivial, trivial, trivial⟩ ?_
        generalize hH12 : (e3_up H11 40 6 (e3_w32 ((H11 40 2) + 1))) = H12
        replace h := h H12 hH12.symm
        refine e3_K [0, 0] 81 [(2, 40), (0, x10), (3, 0)] [(0, (-1)), (0, x10)] (H12) (G9) (wZ L xs) (M := tbM201) rfl rfl trivial ?_
        refine e3_br (M := tbM201) rfl rfl rfl Iff.rfl (fun hc => ?_) (fun hc => ?_)
        · replace h := h.1 hc
          refine e3_K [0, 0, 2] 89 [(2, 40), (0, x10), (3, 0)] [] (e3_up H12 40 3 0) (G9) (wZ L xs) (M := tbM201) rfl rfl ⟨trivial, trivial⟩ ?_
          generalize hH13 : (e3_up H12 40 3 0) = H13
          replace h := h H13 hH13.symm
          refine e3_K [0, 0, 2, 2] 97 [(2, 40), (0, x10), (3, 0)] [] (e3_up H13 40 6 (H13 40 2)) (G9) (wZ L xs) (M := tbM201) rfl rfl ⟨trivial, trivial, trivial⟩ ?_
          generalize hH14 : (e3_up H13 40 6 (H13 40 2)) = H14
          replace h := h H14 hH14.symm
          refine e3_K [0] 549 [(2, 40), (0, x10), (3, 0)] [] (H14) (G9) (wZ L xs) (M := tbM201) rfl rfl trivial ?_
          refine e3_fgt [false, false, false] ?_
          exact sM_next_549 L xs Q _ _ h
        · replace h := h.2 hc
          refine e3_K [0] 101 [(2, 40), (0, x10), (3, 0)] [(0, x10)] (H12) (G9) (wZ L xs) (M := tbM201) rfl rfl trivial ?_
          refine e3_call (o := 0) (k := 203) (M2 := tbM203) (f1 := 1) (w1 := 25) (as := [(0, x10)]) (rest := []) (M := tbM201) rfl rfl rfl trivial (Nat.le_of_ble_eq_true rfl) (Nat.le_of_ble_eq_true rfl) (Nat.le_of_ble_eq_true rfl) ?_
          refine e3_mono (sM_isSmall L xs _ _ _ _ h) (fun r H15 G16 h => ?_)
          obtain ⟨x17, rfl, h⟩ := h
          change e3_Ev _ _ _ _ 104 [(2, 40), (0, x10), (3, 0)] [(0, x17)] H15 G16 _
          refine e3_br (M := tbM201) rfl rfl rfl Iff.rfl (fun hc => ?_) (fun hc => ?_)
          · replace h := h.1 hc
            refine e3_K [0, 0, 2, 2] 115 [(2, 40), (0, x10), (3, 0)] [(1, 90), (1, 65), (1, x10)] (H15) (G16) (wZ L xs) (M := tbM201) rfl rfl ⟨trivial, trivial, trivial⟩ ?_
            refine e3_call (o := 0) (k := 198) (M2 := tbM198) (f1 := 0) (w1 := 0) (as := [(1, x10), (1, 65), (1, 90)]) (rest := []) (M := tbM201) rfl rfl rfl trivial (Nat.le_of_ble_eq_true rfl) (Nat.le_of_ble_eq_true rfl) (Nat.le_of_ble_eq_true rfl) ?_
            refine e3_mono (sM_in L xs _ _ _ _ _ _ h) (fun r H18 G19 h => ?_)
            obtain ⟨x20, rfl, h⟩ := h
            change e3_Ev _ _ _ _ 118 [(2, 40), (0, x10), (3, 0)] [(0, x20)] H18 G19 _
            refine e3_br (M := tbM201) rfl rfl rfl Iff.rfl (fun hc => ?_) (fun hc => ?_)
            · replace h := h.1 hc
              refine e3_K [0] 130 [(2, 40), (0, x10), (3, 0)] [(0, x10)] (H18) (G19) (wZ L xs) (M := tbM201) rfl rfl trivial ?_
              refine e3_call (o := 0) (k := 205) (M2 := tbM205) (f1 := 1) (w1 := 25) (as := [(0, x10)]) (rest := []) (M := tbM201) rfl rfl rfl trivial (Nat.le_of_ble_eq_true rfl) (Nat.le_of_ble_eq_true rfl) (Nat.le_of_ble_eq_true rfl) ?_
              refine e3_mono (sM_isFigure L xs _ _ _ _ h) (fun r H21 G22 h => ?_)
              obtain ⟨x23, rfl, h⟩ := h
              change e3_Ev _ _ _ _ 133 [(2, 40), (0, x10), (3, 0)] [(0, x23)] H21 G22 _
              refine e3_br (M := tbM201) rfl rfl rfl Iff.rfl (fun hc => ?_) (fun hc => ?_)
              · replace h := h.1 hc
                refine e3_K [0, 0] 253 [(2, 40), (0, x10), (3, 0)] [(0, 39), (0, x10)] (H21) (G22) (wZ L xs) (M := tbM201) rfl rfl trivial ?_
                refine e3_br (M := tbM201) rfl rfl rfl Iff.rfl (fun hc => ?_) (fun hc => ?_)
                · replace h := h.1 hc
                  refine e3_fgt [true, false, false] ?_
                  obtain ⟨nl, h⟩ := h
                  exact sM_next_256 L xs Q nl _ _ h
                · replace h := h.2 hc
                  refine e3_K [0, 0] 378 [(2, 40), (0, x10), (3, 0)] [(0, 46), (0, x10)] (H21) (G22) (wZ L xs) (M := tbM201) rfl rfl trivial ?_
                  refine e3_br (M := tbM201) rfl rfl rfl Iff.rfl (fun hc => ?_) (fun hc => ?_)
                  · replace h := h.1 hc
                    refine e3_K [0, 0, 2, 0, 0] 388 [(2, 40), (0, x10), (3, 0)] [(0, (e3_w32 ((H21 40 2) + 1))), (2, 40)] (H21) (G22) (wZ L xs) (M := tbM201) rfl rfl ⟨trivial, trivial⟩ ?_
                    refine e3_call (o := 0) (k := 202) (M2 := tbM202) (f1 := 0) (w1 := 0) (as := [(2, 40), (0, (e3_w32 ((H21 40 2) + 1)))]) (rest := []) (M := tbM201) rfl rfl rfl trivial (Nat.le_of_ble_eq_true rfl) (Nat.le_of_ble_eq_true rfl) (Nat.le_of_ble_eq_true rfl) ?_
                    refine e3_mono (sM_byteAt L xs _ _ _ _ h) (fun r H24 G25 h => ?_)
                    obtain ⟨x26, rfl, h⟩ := h
                    change e3_Ev _ _ _ _ 391 [(2, 40), (0, x10), (3, 0)] [(0, x26)] H24 G25 _
                    refine e3_K [0] 393 [(2, 40), (0, x10), (3, 0)] [(0, 46), (0, x26)] (H24) (G25) (wZ L xs) (M := tbM201) rfl rfl trivial ?_
                    refine e3_br (M := tbM201) rfl rfl rfl Iff.rfl (fun hc => ?_) (fun hc => ?_)
                    · replace h := h.1 hc
                      refine e3_K [0, 0, 2] 401 [(2, 40), (0, x10), (3, 0)] [] (e3_up H24 40 3 5) (G25) (wZ L xs) (M := tbM201) rfl rfl ⟨trivial, trivial⟩ ?_
                      generalize hH27 : (e3_up H24 40 3 5) = H27
                      replace h := h H27 hH27.symm
                      refine e3_K [0, 2, 2] 408 [(2, 40), (0, x10), (3, 0)] [] (e3_up H27 40 4 256) (G25) (wZ L xs) (M := tbM201) rfl rfl ⟨trivial, trivial, trivial⟩ ?_
                      generalize hH28 : (e3_up H27 40 4 256) = H28
                      replace h := h H28 hH28.symm
                      refine e3_K [0, 0, 2, 0, 0, 2] 418 [(2, 40), (0, x10), (3, 0)] [] (e3_up H28 40 6 (e3_w32 ((H28 40 2) + 2))) (G25) (wZ L xs) (M := tbM201) rfl rfl ⟨trivial, trivial, trivial⟩ ?_
                      generalize hH29 : (e3_up H28 40 6 (e3_w32 ((H28 40 2) + 2))) = H29
                      replace h := h H29 hH29.symm
                      refine e3_K [0] 549 [(2, 40), (0, x10), (3, 0)] [] (H29) (G25) (wZ L xs) (M := tbM201) rfl rfl trivial ?_
                      refine e3_fgt [false, false, false] ?_
                      exact sM_next_549 L xs Q _ _ h
                    · replace h := h.2 hc
                      exact sM_next_421 L xs Q _ _ _ h
                  · replace h := h.2 hc
                    exact sM_next_421 L xs Q _ _ _ h
              · replace h := h.2 hc
                refine e3_K [0, 0, 2] 141 [(2, 40), (0, x10), (3, 0)] [] (e3_up H21 40 3 3) (G22) (wZ L xs) (M := tbM201) rfl rfl ⟨trivial, trivial⟩ ?_
                generalize hH30 : (e3_up H21 40 3 3) = H30
                replace h := h H30 hH30.symm
                refine e3_K [0, 0, 2, 2] 149 [(2, 40), (0, x10), (3, 0)] [] (e3_up H30 40 6 (H30 40 2)) (G22) (wZ L xs) (M := tbM201) rfl rfl ⟨trivial, trivial, trivial⟩ ?_
                generalize hH31 : (e3_up H30 40 6 (H30 40 2)) = H31
                replace h := h H31 hH31.symm
                refine e3_fgt [true, false, false] ?_
                obtain ⟨nl, h⟩ := h
                exact sM_next_149 L xs Q nl _ _ h
            · replace h := h.2 hc
              exact sM_next_121 L xs Q _ _ _ h
          · replace h := h.2 hc
            exact sM_next_121 L xs Q _ _ _ h
set_option maxRecDepth 100000 in
set_option maxHeartbeats 4000000 in
theorem sM_next (L : Nat) (xs : Nat → Int32) (Q : e3_H → e3_G → Prop)  (H : e3_H) (G : e3_G) (h : wM_next Q  H G) : e3_Ev (wB L xs) 3 67 201 0 [(2, 40), (3, 0), (3, 0)] [] H G (e3_qv Q) := by
  unfold wM_next at h
  refine e3_K [0, 0, 2, 2] 8 [(2, 40), (3, 0), (3, 0)] [] (e3_up H 40 2 (H 40 6)) (G) (wZ L xs) (M := tbM201) rfl rfl ⟨trivial, trivial, trivial⟩ ?_
  generalize hH1 : (e3_up H 40 2 (H 40 6)) = H1
  replace h := h H1 hH1.symm
  obtain ⟨nl, h⟩ := h
  exact sM_next_8 L xs Q nl _ _ h
