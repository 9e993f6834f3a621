/-- LetterPostModel.asksAt(II)I -/
def wM_asksAt_288 (Q : Int → e3_H → e3_G → Prop) (k14 : Int → Int → Int → Int → Int → e3_H → e3_G → Prop) (l1 : Int) (l2 : Int) (l3 : Int) (l4 : Int) (l5 : Int) (H : e3_H) (G : e3_G) : Prop :=
  (k14 l1 l2 l3 l4 (e3_w32 (l5 + 1)) H G)
def wM_asksAt_281 (Q : Int → e3_H → e3_G → Prop) (k14 : Int → Int → Int → Int → Int → e3_H → e3_G → Prop) (l1 : Int) (l2 : Int) (l5 : Int) (l7 : Int) (H : e3_H) (G : e3_G) : Prop :=
  (wM_asksAt_288 Q k14 l1 l2 l5 l7 l5 H G)
def wM_asksAt_259 (Q : Int → e3_H → e3_G → Prop) (k14 : Int → Int → Int → Int → Int → e3_H → e3_G → Prop) (l1 : Int) (l2 : Int) (l3 : Int) (l4 : Int) (l5 : Int) (l7 : Int) (H : e3_H) (G : e3_G) : Prop :=
  (((l3 : Int) = (-4) → (wM_asksAt_281 Q k14 l1 l2 l5 l7 H G)) ∧ (¬ ((l3 : Int) = (-4)) → (((l2 : Int) = 3 → (wM_asksAt_281 Q k14 l1 l2 l5 l7 H G)) ∧ (¬ ((l2 : Int) = 3) → (((0 : Int) < l2 → (((l4 : Int) < l7 → (wM_asksAt_281 Q k14 l1 l2 l5 l7 H G)) ∧ (¬ ((l4 : Int) < l7) → (wM_asksAt_288 Q k14 l1 l2 l3 l4 l5 H G)))) ∧ (¬ ((0 : Int) < l2) → (wM_asksAt_288 Q k14 l1 l2 l3 l4 l5 H G)))))))
def wM_asksAt_212 (Q : Int → e3_H → e3_G → Prop) (k14 : Int → Int → Int → Int → Int → e3_H → e3_G → Prop) (k170 : Int → Int → Int → Int → Int → Int → Int → e3_H → e3_G → Prop) (l1 : Int) (l2 : Int) (l3 : Int) (l4 : Int) (l5 : Int) (l8 : Int) (s0 : Int) (s1 : Int) (H : e3_H) (G : e3_G) : Prop :=
  (k170 l1 l2 l3 l4 l5 (e3_w32 (s1 + s0)) (e3_w32 (l8 + 1)) H G)
def wM_asksAt_211 (Q : Int → e3_H → e3_G → Prop) (k14 : Int → Int → Int → Int → Int → e3_H → e3_G → Prop) (k170 : Int → Int → Int → Int → Int → Int → Int → e3_H → e3_G → Prop) (l1 : Int) (l2 : Int) (l3 : Int) (l4 : Int) (l5 : Int) (l8 : Int) (s0 : Int) (H : e3_H) (G : e3_G) : Prop :=
  (wM_asksAt_212 Q k14 k170 l1 l2 l3 l4 l5 l8 0 s0 H G)
def wM_asksAt_170 (Q : Int → e3_H → e3_G → Prop) (k14 : Int → Int → Int → Int → Int → e3_H → e3_G → Prop) : Nat → Int → Int → Int → Int → Int → Int → Int → e3_H → e3_G → Prop
  | 0, _, _, _, _, _, _, _, _, _ => False
  | nn + 1, l1, l2, l3, l4, l5, l7, l8, H, G => (((l8 : Int) < (H 40 61) → ((0 : Int) ≤ l8 ∧ (l8 : Int) < 40) ∧ ((((H 93 l8) : Int) = 0 → (wM_asksAt_211 Q k14 (fun l1 l2 l3 l4 l5 l7 l8 H G => wM_asksAt_170 Q k14 nn l1 l2 l3 l4 l5 l7 l8 H G) l1 l2 l3 l4 l5 l8 l7 H G)) ∧ (¬ (((H 93 l8) : Int) = 0) → ((0 : Int) ≤ l5 ∧ (l5 : Int) < 33000) ∧ (wM_isLeft (fun x5 H3 G4 => (((x5 : Int) = 0 → (wM_asksAt_211 Q k14 (fun l1 l2 l3 l4 l5 l7 l8 H G => wM_asksAt_170 Q k14 nn l1 l2 l3 l4 l5 l7 l8 H G) l1 l2 l3 l4 l5 l8 l7 H3 G4)) ∧ (¬ ((x5 : Int) = 0) → (wM_asksAt_212 Q k14 (fun l1 l2 l3 l4 l5 l7 l8 H G => wM_asksAt_170 Q k14 nn l1 l2 l3 l4 l5 l7 l8 H G) l1 l2 l3 l4 l5 l8 1 l7 H3 G4)))) l8 (H 90 l5) H G)))) ∧ (¬ ((l8 : Int) < (H 40 61)) → (wM_asksAt_259 Q k14 l1 l2 l3 l4 l5 l7 H G)))
def wM_asksAt_151 (Q : Int → e3_H → e3_G → Prop) (k14 : Int → Int → Int → Int → Int → e3_H → e3_G → Prop) (l1 : Int) (l2 : Int) (l3 : Int) (l4 : Int) (l5 : Int) (l6 : Int) (H : e3_H) (G : e3_G) : Prop :=
  (((l6 : Int) = 0 → (wM_asksAt_288 Q k14 l1 l2 l3 l4 l5 H G)) ∧ (¬ ((l6 : Int) = 0) → (((l2 : Int) = 1 → (∃ n, wM_asksAt_170 Q k14 n l1 l2 l3 l4 l5 0 0 H G)) ∧ (¬ ((l2 : Int) = 1) → (((l2 : Int) = 2 → ((0 : Int) ≤ l5 ∧ (l5 : Int) < 33000) ∧ ((0 : Int) ≤ l5 ∧ (l5 : Int) < 33000) ∧ ((0 : Int) ≤ (H 91 l5) ∧ ((H 91 l5) : Int) < 1700) ∧ (wM_layBranches (fun H4 G5 => (wM_asksAt_259 Q k14 l1 l2 l3 l4 l5 (e3_w32 (-(H4 40 99))) H4 G5)) (H 90 l5) (H 47 (H 91 l5)) H G)) ∧ (¬ ((l2 : Int) = 2) → (wM_asksAt_259 Q k14 l1 l2 l3 l4 l5 0 H G)))))))
def wM_asksAt_143 (Q : Int → e3_H → e3_G → Prop) (k14 : Int → Int → Int → Int → Int → e3_H → e3_G → Prop) (k99 : Int → Int → Int → Int → Int → Int → Int → e3_H → e3_G → Prop) (l1 : Int) (l2 : Int) (l3 : Int) (l4 : Int) (l5 : Int) (l7 : Int) (s0 : Int) (H : e3_H) (G : e3_G) : Prop :=
  (k99 l1 l2 l3 l4 l5 s0 (e3_w32 (l7 + 1)) H G)
def wM_asksAt_138 (Q : Int → e3_H → e3_G → Prop) (k14 : Int → Int → Int → Int → Int → e3_H → e3_G → Prop) (k99 : Int → Int → Int → Int → Int → Int → Int → e3_H → e3_G → Prop) (l1 : Int) (l2 : Int) (l3 : Int) (l4 : Int) (l5 : Int) (l7 : Int) (H : e3_H) (G : e3_G) : Prop :=
  (wM_asksAt_143 Q k14 k99 l1 l2 l3 l4 l5 l7 1 H G)
def wM_asksAt_99 (Q : Int → e3_H → e3_G → Prop) (k14 : Int → Int → Int → Int → Int → e3_H → e3_G → Prop) : Nat → Int → Int → Int → Int → Int → Int → Int → e3_H → e3_G → Prop
  | 0, _, _, _, _, _, _, _, _, _ => False
  | nn + 1, l1, l2, l3, l4, l5, l6, l7, H, G => (((l7 : Int) < l5 → (((l6 : Int) = 0 → (wM_asksAt_151 Q k14 l1 l2 l3 l4 l5 l6 H G)) ∧ (¬ ((l6 : Int) = 0) → ((0 : Int) ≤ l7 ∧ (l7 : Int) < 33000) ∧ ((((H 92 l7) : Int) = 0 → ((0 : Int) ≤ l7 ∧ (l7 : Int) < 33000) ∧ ((0 : Int) ≤ l5 ∧ (l5 : Int) < 33000) ∧ ((((H 90 l7) : Int) = (H 90 l5) → (wM_asksAt_143 Q k14 (fun l1 l2 l3 l4 l5 l6 l7 H G => wM_asksAt_99 Q k14 nn l1 l2 l3 l4 l5 l6 l7 H G) l1 l2 l3 l4 l5 l7 0 H G)) ∧ (¬ (((H 90 l7) : Int) = (H 90 l5)) → (wM_asksAt_138 Q k14 (fun l1 l2 l3 l4 l5 l6 l7 H G => wM_asksAt_99 Q k14 nn l1 l2 l3 l4 l5 l6 l7 H G) l1 l2 l3 l4 l5 l7 H G)))) ∧ (¬ (((H 92 l7) : Int) = 0) → (wM_asksAt_138 Q k14 (fun l1 l2 l3 l4 l5 l6 l7 H G => wM_asksAt_99 Q k14 nn l1 l2 l3 l4 l5 l6 l7 H G) l1 l2 l3 l4 l5 l7 H G)))))) ∧ (¬ ((l7 : Int) < l5) → (wM_asksAt_151 Q k14 l1 l2 l3 l4 l5 l6 H G)))
def wM_asksAt_91 (Q : Int → e3_H → e3_G → Prop) (k14 : Int → Int → Int → Int → Int → e3_H → e3_G → Prop) (l1 : Int) (l2 : Int) (l3 : Int) (l4 : Int) (l5 : Int) (l6 : Int) (H : e3_H) (G : e3_G) : Prop :=
  ((0 : Int) ≤ l1 ∧ (l1 : Int) < 41) ∧ (∃ n, wM_asksAt_99 Q k14 n l1 l2 l3 l4 l5 l6 (H 88 l1) H G)
def wM_asksAt_80 (Q : Int → e3_H → e3_G → Prop) (k14 : Int → Int → Int → Int → Int → e3_H → e3_G → Prop) (k55 : Int → Int → Int → Int → Int → Int → Int → e3_H → e3_G → Prop) (l1 : Int) (l2 : Int) (l3 : Int) (l4 : Int) (l5 : Int) (l7 : Int) (s0 : Int) (H : e3_H) (G : e3_G) : Prop :=
  (k55 l1 l2 l3 l4 l5 s0 (e3_shr l7 3) H G)
def wM_asksAt_55 (Q : Int → e3_H → e3_G → Prop) (k14 : Int → Int → Int → Int → Int → e3_H → e3_G → Prop) : Nat → Int → Int → Int → Int → Int → Int → Int → e3_H → e3_G → Prop
  | 0, _, _, _, _, _, _, _, _, _ => False
  | nn + 1, l1, l2, l3, l4, l5, l6, l7, H, G => (((0 : Int) < l7 → (((l6 : Int) = 0 → (wM_asksAt_91 Q k14 l1 l2 l3 l4 l5 l6 H G)) ∧ (¬ ((l6 : Int) = 0) → (wM_isLeft (fun x3 H1 G2 => (((x3 : Int) = 0 → (wM_asksAt_80 Q k14 (fun l1 l2 l3 l4 l5 l6 l7 H G => wM_asksAt_55 Q k14 nn l1 l2 l3 l4 l5 l6 l7 H G) l1 l2 l3 l4 l5 l7 1 H1 G2)) ∧ (¬ ((x3 : Int) = 0) → (wM_asksAt_80 Q k14 (fun l1 l2 l3 l4 l5 l6 l7 H G => wM_asksAt_55 Q k14 nn l1 l2 l3 l4 l5 l6 l7 H G) l1 l2 l3 l4 l5 l7 0 H1 G2)))) l1 l7 H G)))) ∧ (¬ ((0 : Int) < l7) → (wM_asksAt_91 Q k14 l1 l2 l3 l4 l5 l6 H G)))
def wM_asksAt_42 (Q : Int → e3_H → e3_G → Prop) (k14 : Int → Int → Int → Int → Int → e3_H → e3_G → Prop) (l1 : Int) (l2 : Int) (l3 : Int) (l4 : Int) (l5 : Int) (s0 : Int) (H : e3_H) (G : e3_G) : Prop :=
  ((0 : Int) ≤ l5 ∧ (l5 : Int) < 33000) ∧ (∃ n, wM_asksAt_55 Q k14 n l1 l2 l3 l4 l5 s0 (e3_shr (H 90 l5) 3) H G)
def wM_asksAt_14 (Q : Int → e3_H → e3_G → Prop) : Nat → Int → Int → Int → Int → Int → e3_H → e3_G → Prop
  | 0, _, _, _, _, _, _, _ => False
  | nn + 1, l1, l2, l3, l4, l5, H, G => ((0 : Int) ≤ (e3_w32 (l1 + 1)) ∧ ((e3_w32 (l1 + 1)) : Int) < 41) ∧ (((l5 : Int) < (H 88 (e3_w32 (l1 + 1))) → ((0 : Int) ≤ l5 ∧ (l5 : Int) < 33000) ∧ ((((H 92 l5) : Int) = 0 → (wM_asksAt_42 Q (fun l1 l2 l3 l4 l5 H G => wM_asksAt_14 Q nn l1 l2 l3 l4 l5 H G) l1 l2 l3 l4 l5 1 H G)) ∧ (¬ (((H 92 l5) : Int) = 0) → (wM_asksAt_42 Q (fun l1 l2 l3 l4 l5 H G => wM_asksAt_14 Q nn l1 l2 l3 l4 l5 H G) l1 l2 l3 l4 l5 0 H G)))) ∧ (¬ ((l5 : Int) < (H 88 (e3_w32 (l1 + 1)))) → Q l3 H G))
def wM_asksAt (Q : Int → e3_H → e3_G → Prop) (l1 : Int) (l2 : Int) (H : e3_H) (G : e3_G) : Prop :=
  ((0 : Int) ≤ l1 ∧ (l1 : Int) < 41) ∧ (∃ n, wM_asksAt_14 Q n l1 l2 (-4) 0 (H 88 l1) H G)
set_option maxRecDepth 100000 in
set_option maxHeartbeats 4000000 in
theorem sM_asksAt_288 (L : Nat) (xs : Nat → Int32) (Q : Int → e3_H → e3_G → Prop) (k14 : Int → Int → Int → Int → Int → e3_H → e3_G → Prop) (hk14 : ∀ (l1 : Int) (l2 : Int) (l3 : Int) (l4 : Int) (l5 : Int) (H : e3_H) (G : e3_G), k14 l1 l2 l3 l4 l5 H G → e3_Ev (wB L xs) 3 76 253 14 [(2, 40), (0, l1), (0, l2), (0, l3), (0, l4), (0, l5), (3, 0), (3, 0), (3, 0)] [] H G (e3_q0 Q)) (l1 : Int) (l2 : Int) (l3 : Int) (l4 : Int) (l5 : Int) (H : e3_H) (G : e3_G) (h : wM_asksAt_288 Q k14 l1 l2 l3 l4 l5 H G) : e3_Ev (wB L xs) 3 76 253 288 [(2, 40), (0, l1), (0, l2), (0, l3), (0, l4), (0, l5), (3, 0), (3, 0), (3, 0)] [] H G (e3_q0 Q) := by
  unfold wM_asksAt_288 at h
  refine e3_K [0, 0] 14 [(2, 40), (0, l1), (0, l2), (0, l3), (0, l4), (0, (e3_w32 (l5 + 1))), (3, 0), (3, 0), (3, 0)] [] (H) (G) (wZ L xs) (M := tbM253) rfl rfl trivial ?_
  exact hk14 _ _ _ _ _ _ _ h
set_option maxRecDepth 100000 in
set_option maxHeartbeats 4000000 in
theorem sM_asksAt_281 (L : Nat) (xs : Nat → Int32) (Q : Int → e3_H → e3_G → Prop) (k14 : Int → Int → Int → Int → Int → e3_H → e3_G → Prop) (hk14 : ∀ (l1 : Int) (l2 : Int) (l3 : Int) (l4 : Int) (l5 : Int) (H : e3_H) (G : e3_G), k14 l1 l2 l3 l4 l5 H G → e3_Ev (wB L xs) 3 76 253 14 [(2, 40), (0, l1), (0, l2), (0, l3), (0, l4), (0, l5), (3, 0), (3, 0), (3, 0)] [] H G (e3_q0 Q)) (l1 : Int) (l2 : Int) (l5 : Int) (l7 : Int) (H : e3_H) (G : e3_G) (h : wM_asksAt_281 Q k14 l1 l2 l5 l7 H G) : e3_Ev (wB L xs) 3 76 253 281 [(2, 40), (0, l1), (0, l2), (3, 0), (3, 0), (0, l5), (3, 0), (0, l7), (3, 0)] [] H G (e3_q0 Q) := by
  unfold wM_asksAt_281 at h
  refine e3_K [0, 0, 0, 0] 288 [(2, 40), (0, l1), (0, l2), (0, l5), (0, l7), (0, l5), (3, 0), (0, l7), (3, 0)] [] (H) (G) (wZ L xs) (M := tbM253) rfl rfl trivial ?_
  refine e3_fgt [true, true, true, true, true, true, false, false, false] ?_
  exact sM_asksAt_288 L xs Q k14 hk14 _ _ _ _ _ _ _ h
set_option maxRecDepth 100000 in
set_option maxHeartbeats 4000000 in
theorem sM_asksAt_259 (L : Nat) (xs : Nat → Int32) (Q : Int → e3_H → e3_G → Prop) (k14 : Int → Int → Int → Int → Int → e3_H → e3_G → Prop) (hk14 : ∀ (l1 : Int) (l2 : Int) (l3 : Int) (l4 : Int) (l5 : Int) (H : e3_H) (G : e3_G), k14 l1 l2 l3 l4 l5 H G → e3_Ev (wB L xs) 3 76 253 14 [(2, 40), (0, l1), (0, l2), (0, l3), (0, l4), (0, l5), (3, 0), (3, 0), (3, 0)] [] H G (e3_q0 Q)) (l1 : Int) (l2 : Int) (l3 : Int) (l4 : Int) (l5 : Int) (l7 : Int) (H : e3_H) (G : e3_G) (h : wM_asksAt_259 Q k14 l1 l2 l3 l4 l5 l7 H G) : e3_Ev (wB L xs) 3 76 253 259 [(2, 40), (0, l1), (0, l2), (0, l3), (0, l4), (0, l5), (3, 0), (0, l7), (3, 0)] [] H G (e3_q0 Q) := by
  unfold wM_asksAt_259 at h
  refine e3_K [0, 0] 262 [(2, 40), (0, l1), (0, l2), (0, l3), (0, l4), (0, l5), (3, 0), (0, l7), (3, 0)] [(0, (-4)), (0, l3)] (H) (G) (wZ L xs) (M := tbM253) rfl rfl trivial ?_
  refine e3_br (M := tbM253) rfl rfl rfl Iff.rfl (fun hc => ?_) (fun hc => ?_)
  · replace h := h.1 hc
    refine e3_fgt [true, true, true, false, false, true, false, true, false] ?_
    exact sM_asksAt_281 L xs Q k14 hk14 _ _ _ _ _ _ h
  · replace h := h.2 hc
    refine e3_K [0, 0] 267 [(2, 40), (0, l1), (0, l2), (0, l3), (0, l4), (0, l5), (3, 0), (0, l7), (3, 0)] [(0, 3), (0, l2)] (H) (G) (wZ L xs) (M := tbM253) rfl rfl trivial ?_
    refine e3_br (M := tbM253) rfl rfl rfl Iff.rfl (fun hc => ?_) (fun hc => ?_)
    · replace h := h.1 hc
      refine e3_fgt [true, true, true, false, false, true, false, true, false] ?_
      exact sM_asksAt_281 L xs Q k14 hk14 _ _ _ _ _ _ h
    · replace h := h.2 hc
      refine e3_K [0] 271 [(2, 40), (0, l1), (0, l2), (0, l3), (0, l4), (0, l5), (3, 0), (0, l7), (3, 0)] [(0, l2)] (H) (G) (wZ L xs) (M := tbM253) rfl rfl trivial ?_
      refine e3_br (M := tbM253) rfl rfl rfl Iff.rfl (fun hc => ?_) (fun hc => ?_)
      · replace h := h.1 hc
        refine e3_K [0, 0] 278 [(2, 40), (0, l1), (0, l2), (0, l3), (0, l4), (0, l5), (3, 0), (0, l7), (3, 0)] [(0, l4), (0, l7)] (H) (G) (wZ L xs) (M := tbM253) rfl rfl trivial ?_
        refine e3_br (M := tbM253) rfl rfl rfl Iff.rfl (fun hc => ?_) (fun hc => ?_)
        · replace h := h.1 hc
          refine e3_fgt [true, true, true, false, false, true, false, true, false] ?_
          exact sM_asksAt_281 L xs Q k14 hk14 _ _ _ _ _ _ h
        · replace h := h.2 hc
          refine e3_fgt [true, true, true, true, true, true, false, false, false] ?_
          exact sM_asksAt_288 L xs Q k14 hk14 _ _ _ _ _ _ _ h
      · replace h := h.2 hc
        refine e3_fgt [true, true, true, true, true, true, false, false, false] ?_
        exact sM_asksAt_288 L xs Q k14 hk14 _ _ _ _ _ _ _ h
set_option maxRecDepth 100000 in
set_option maxHeartbeats 4000000 in
theorem sM_asksAt_212 (L : Nat) (xs : Nat → Int32) (Q : Int → e3_H → e3_G → Prop) (k14 : Int → Int → Int → Int → Int → e3_H → e3_G → Prop) (hk14 : ∀ (l1 : Int) (l2 : Int) (l3 : Int) (l4 : Int) (l5 : Int) (H : e3_H) (G : e3_G), k14 l1 l2 l3 l4 l5 H G → e3_Ev (wB L xs) 3 76 253 14 [(2, 40), (0, l1), (0, l2), (0, l3), (0, l4), (0, l5), (3, 0), (3, 0), (3, 0)] [] H G (e3_q0 Q)) (k170 : Int → Int → Int → Int → Int → Int → Int → e3_H → e3_G → Prop) (hk170 : ∀ (l1 : Int) (l2 : Int) (l3 : Int) (l4 : Int) (l5 : Int) (l7 : Int) (l8 : Int) (H : e3_H) (G : e3_G), k170 l1 l2 l3 l4 l5 l7 l8 H G → e3_Ev (wB L xs) 3 76 253 170 [(2, 40), (0, l1), (0, l2), (0, l3), (0, l4), (0, l5), (3, 0), (0, l7), (0, l8)] [] H G (e3_q0 Q)) (l1 : Int) (l2 : Int) (l3 : Int) (l4 : Int) (l5 : Int) (l8 : Int) (s0 : Int) (s1 : Int) (H : e3_H) (G : e3_G) (h : wM_asksAt_212 Q k14 k170 l1 l2 l3 l4 l5 l8 s0 s1 H G) : e3_Ev (wB L xs) 3 76 253 212 [(2, 40), (0, l1), (0, l2), (0, l3), (0, l4), (0, l5), (3, 0), (3, 0), (0, l8)] [(0, s0), (0, s1)] H G (e3_q0 Q) := by
  unfold wM_asksAt_212 at h
  refine e3_K [0, 0, 0, 0] 170 [(2, 40), (0, l1), (0, l2), (0, l3), (0, l4), (0, l5), (3, 0), (0, (e3_w32 (s1 + s0))), (0, (e3_w32 (l8 + 1)))] [] (H) (G) (wZ L xs) (M := tbM253) rfl rfl trivial ?_
  exact hk170 _ _ _ _ _ _ _ _ _ h
set_option maxRecDepth 100000 in
set_option maxHeartbeats 4000000 in
theorem sM_asksAt_211 (L : Nat) (xs : Nat → Int32) (Q : Int → e3_H → e3_G → Prop) (k14 : Int → Int → Int → Int → Int → e3_H → e3_G → Prop) (hk14 : ∀ (l1 : Int) (l2 : Int) (l3 : Int) (l4 : Int) (l5 : Int) (H : e3_H) (G : e3_G), k14 l1 l2 l3 l4 l5 H G → e3_Ev (wB L xs) 3 76 253 14 [(2, 40), (0, l1), (0, l2), (0, l3), (0, l4), (0, l5), (3, 0), (3, 0), (3, 0)] [] H G (e3_q0 Q)) (k170 : Int → Int → Int → Int → Int → Int → Int → e3_H → e3_G → Prop) (hk170 : ∀ (l1 : Int) (l2 : Int) (l3 : Int) (l4 : Int) (l5 : Int) (l7 : Int) (l8 : Int) (H : e3_H) (G : e3_G), k170 l1 l2 l3 l4 l5 l7 l8 H G → e3_Ev (wB L xs) 3 76 253 170 [(2, 40), (0, l1), (0, l2), (0, l3), (0, l4), (0, l5), (3, 0), (0, l7), (0, l8)] [] H G (e3_q0 Q)) (l1 : Int) (l2 : Int) (l3 : Int) (l4 : Int) (l5 : Int) (l8 : Int) (s0 : Int) (H : e3_H) (G : e3_G) (h : wM_asksAt_211 Q k14 k170 l1 l2 l3 l4 l5 l8 s0 H G) : e3_Ev (wB L xs) 3 76 253 211 [(2, 40), (0, l1), (0, l2), (0, l3), (0, l4), (0, l5), (3, 0), (3, 0), (0, l8)] [(0, s0)] H G (e3_q0 Q) := by
  unfold wM_asksAt_211 at h
  refine e3_K [0] 212 [(2, 40), (0, l1), (0, l2), (0, l3), (0, l4), (0, l5), (3, 0), (3, 0), (0, l8)] [(0, 0), (0, s0)] (H) (G) (wZ L xs) (M := tbM253) rfl rfl trivial ?_
  exact sM_asksAt_212 L xs Q k14 hk14 k170 hk170 _ _ _ _ _ _ _ _ _ _ h
set_option maxRecDepth 100000 in
set_option maxHeartbeats 4000000 in
theorem sM_asksAt_170 (L : Nat) (xs : Nat → Int32) (Q : Int → e3_H → e3_G → Prop) (k14 : Int → Int → Int → Int → Int → e3_H → e3_G → Prop) (hk14 : ∀ (l1 : Int) (l2 : Int) (l3 : Int) (l4 : Int) (l5 : Int) (H : e3_H) (G : e3_G), k14 l1 l2 l3 l4 l5 H G → e3_Ev (wB L xs) 3 76 253 14 [(2, 40), (0, l1), (0, l2), (0, l3), (0, l4), (0, l5), (3, 0), (3, 0), (3, 0)] [] H G (e3_q0 Q)) : ∀ (nl : Nat) (l1 : Int) (l2 : Int) (l3 : Int) (l4 : Int) (l5 : Int) (l7 : Int) (l8 : Int) (H : e3_H) (G : e3_G), wM_asksAt_170 Q k14 nl l1 l2 l3 l4 l5 l7 l8 H G → e3_Ev (wB L xs) 3 76 253 170 [(2, 40), (0, l1), (0, l2), (0, l3), (0, l4), (0, l5), (3, 0), (0, l7), (0, l8)] [] H G (e3_q0 Q) := by
  intro nl
  induction nl with
  | zero => intro l1 l2 l3 l4 l5 l7 l8 H G h; exact h.elim
  | succ nn ih =>
    intro l1 l2 l3 l4 l5 l7 l8 H G h
    have h : (((l8 : Int) < (H 40 61) → ((0 : Int) ≤ l8 ∧ (l8 : Int) < 40) ∧ ((((H 93 l8) : Int) = 0 → (wM_asksAt_211 Q k14 (fun l1 l2 l3 l4 l5 l7 l8 H G => wM_asksAt_170 Q k14 nn l1 l2 l3 l4 l5 l7 l8 H G) l1 l2 l3 l4 l5 l8 l7 H G)) ∧ (¬ (((H 93 l8) : Int) = 0) → ((0 : Int) ≤ l5 ∧ (l5 : Int) < 33000) ∧ (wM_isLeft (fun x5 H3 G4 => (((x5 : Int) = 0 → (wM_asksAt_211 Q k14 (fun l1 l2 l3 l4 l5 l7 l8 H G => wM_asksAt_170 Q k14 nn l1 l2 l3 l4 l5 l7 l8 H G) l1 l2 l3 l4 l5 l8 l7 H3 G4)) ∧ (¬ ((x5 : Int) = 0) → (wM_asksAt_212 Q k14 (fun l1 l2 l3 l4 l5 l7 l8 H G => wM_asksAt_170 Q k14 nn l1 l2 l3 l4 l5 l7 l8 H G) l1 l2 l3 l4 l5 l8 1 l7 H3 G4)))) l8 (H 90 l5) H G)))) ∧ (¬ ((l8 : Int) < (H 40 61)) → (wM_asksAt_259 Q k14 l1 l2 l3 l4 l5 l7 H G))) := h
    refine e3_K [0, 0, 2] 176 [(2, 40), (0, l1), (0, l2), (0, l3), (0, l4), (0, l5), (3, 0), (0, l7), (0, l8)] [(0, (H 40 61)), (0, l8)] (H) (G) (wZ L xs) (M := tbM253) rfl rfl ⟨trivial, trivial⟩ ?_
    refine e3_br (M := tbM253) rfl rfl rfl Iff.rfl (fun hc => ?_) (fun hc => ?_)
    · replace h := h.1 hc
      obtain ⟨o1, h⟩ := h
      refine e3_K [0, 0, 4, 0, 2] 188 [(2, 40), (0, l1), (0, l2), (0, l3), (0, l4), (0, l5), (3, 0), (0, l7), (0, l8)] [(0, (H 93 l8)), (0, l7)] (H) (G) (wZ L xs) (M := tbM253) rfl rfl ⟨trivial, o1, trivial⟩ ?_
      refine e3_br (M := tbM253) rfl rfl rfl Iff.rfl (fun hc => ?_) (fun hc => ?_)
      · replace h := h.1 hc
        refine e3_fgt [true, true, true, true, true, true, false, false, true] ?_
        exact sM_asksAt_211 L xs Q k14 hk14 (fun l1 l2 l3 l4 l5 l7 l8 H G => wM_asksAt_170 Q k14 nn l1 l2 l3 l4 l5 l7 l8 H G) ih _ _ _ _ _ _ _ _ _ h
      · replace h := h.2 hc
        obtain ⟨o2, h⟩ := h
        refine e3_K [0, 0, 0, 4, 0, 2] 201 [(2, 40), (0, l1), (0, l2), (0, l3), (0, l4), (0, l5), (3, 0), (0, l7), (0, l8)] [(0, (H 90 l5)), (0, l8), (2, 40), (0, l7)] (H) (G) (wZ L xs) (M := tbM253) rfl rfl ⟨trivial, o2, trivial⟩ ?_
        refine e3_call (o := 0) (k := 254) (M2 := tbM254) (f1 := 0) (w1 := 0) (as := [(2, 40), (0, l8), (0, (H 90 l5))]) (rest := [(0, l7)]) (M := tbM253) rfl rfl rfl trivial (Nat.le_of_ble_eq_true rfl) (Nat.le_of_ble_eq_true rfl) (Nat.le_of_ble_eq_true rfl) ?_
        refine e3_mono (sM_isLeft L xs _ _ _ _ _ h) (fun r H3 G4 h => ?_)
        obtain ⟨x5, rfl, h⟩ := h
        change e3_Ev _ _ _ _ 204 [(2, 40), (0, l1), (0, l2), (0, l3), (0, l4), (0, l5), (3, 0), (0, l7), (0, l8)] [(0, x5), (0, l7)] H3 G4 _
        refine e3_br (M := tbM253) rfl rfl rfl Iff.rfl (fun hc => ?_) (fun hc => ?_)
        · replace h := h.1 hc
          refine e3_fgt [true, true, true, true, true, true, false, false, true] ?_
          exact sM_asksAt_211 L xs Q k14 hk14 (fun l1 l2 l3 l4 l5 l7 l8 H G => wM_asksAt_170 Q k14 nn l1 l2 l3 l4 l5 l7 l8 H G) ih _ _ _ _ _ _ _ _ _ h
        · replace h := h.2 hc
          refine e3_K [0, 0] 212 [(2, 40), (0, l1), (0, l2), (0, l3), (0, l4), (0, l5), (3, 0), (0, l7), (0, l8)] [(0, 1), (0, l7)] (H3) (G4) (wZ L xs) (M := tbM253) rfl rfl trivial ?_
          refine e3_fgt [true, true, true, true, true, true, false, false, true] ?_
          exact sM_asksAt_212 L xs Q k14 hk14 (fun l1 l2 l3 l4 l5 l7 l8 H G => wM_asksAt_170 Q k14 nn l1 l2 l3 l4 l5 l7 l8 H G) ih _ _ _ _ _ _ _ _ _ _ h
    · replace h := h.2 hc
      refine e3_K [0] 259 [(2, 40), (0, l1), (0, l2), (0, l3), (0, l4), (0, l5), (3, 0), (0, l7), (0, l8)] [] (H) (G) (wZ L xs) (M := tbM253) rfl rfl trivial ?_
      refine e3_fgt [true, true, true, true, true, true, false, true, false] ?_
      exact sM_asksAt_259 L xs Q k14 hk14 _ _ _ _ _ _ _ _ h
set_option maxRecDepth 100000 in
set_option maxHeartbeats 4000000 in
theorem sM_asksAt_151 (L : Nat) (xs : Nat → Int32) (Q : Int → e3_H → e3_G → Prop) (k14 : Int → Int → Int → Int → Int → e3_H → e3_G → Prop) (hk14 : ∀ (l1 : Int) (l2 : Int) (l3 : Int) (l4 : Int) (l5 : Int) (H : e3_H) (G : e3_G), k14 l1 l2 l3 l4 l5 H G → e3_Ev (wB L xs) 3 76 253 14 [(2, 40), (0, l1), (0, l2), (0, l3), (0, l4), (0, l5), (3, 0), (3, 0), (3, 0)] [] H G (e3_q0 Q)) (l1 : Int) (l2 : Int) (l3 : Int) (l4 : Int) (l5 : Int) (l6 : Int) (H : e3_H) (G : e3_G) (h : wM_asksAt_151 Q k14 l1 l2 l3 l4 l5 l6 H G) : e3_Ev (wB L xs) 3 76 253 151 [(2, 40), (0, l1), (0, l2), (0, l3), (0, l4), (0, l5), (0, l6), (3, 0), (3, 0)] [] H G (e3_q0 Q) := by
  unfold wM_asksAt_151 at h
  refine e3_K [0] 153 [(2, 40), (0, l1), (0, l2), (0, l3), (0, l4), (0, l5), (0, l6), (3, 0), (3, 0)] [(0, l6)] (H) (G) (wZ L xs) (M := tbM253) rfl rfl trivial ?_
  refine e3_br (M := tbM253) rfl rfl rfl Iff.rfl (fun hc => ?_) (fun hc => ?_)
  · replace h := h.1 hc
    refine e3_K [0] 288 [(2, 40), (0, l1), (0, l2), (0, l3), (0, l4), (0, l5), (0, l6), (3, 0), (3, 0)] [] (H) (G) (wZ L xs) (M := tbM253) rfl rfl trivial ?_
    refine e3_fgt [true, true, true, true, true, true, false, false, false] ?_
    exact sM_asksAt_288 L xs Q k14 hk14 _ _ _ _ _ _ _ h
  · replace h := h.2 hc
    refine e3_K [0, 0, 0, 0] 164 [(2, 40), (0, l1), (0, l2), (0, l3), (0, l4), (0, l5), (0, l6), (0, 0), (3, 0)] [(0, 1), (0, l2)] (H) (G) (wZ L xs) (M := tbM253) rfl rfl trivial ?_
    refine e3_br (M := tbM253) rfl rfl rfl Iff.rfl (fun hc => ?_) (fun hc => ?_)
    · replace h := h.1 hc
      refine e3_K [0, 0] 170 [(2, 40), (0, l1), (0, l2), (0, l3), (0, l4), (0, l5), (0, l6), (0, 0), (0, 0)] [] (H) (G) (wZ L xs) (M := tbM253) rfl rfl trivial ?_
      refine e3_fgt [true, true, true, true, true, true, false, true, true] ?_
      obtain ⟨nl, h⟩ := h
      exact sM_asksAt_170 L xs Q k14 hk14 nl _ _ _ _ _ _ _ _ _ h
    · replace h := h.2 hc
      refine e3_K [0, 0] 226 [(2, 40), (0, l1), (0, l2), (0, l3), (0, l4), (0, l5), (0, l6), (0, 0), (3, 0)] [(0, 2), (0, l2)] (H) (G) (wZ L xs) (M := tbM253) rfl rfl trivial ?_
      refine e3_br (M := tbM253) rfl rfl rfl Iff.rfl (fun hc => ?_) (fun hc => ?_)
      · replace h := h.1 hc
        obtain ⟨o1, o2, o3, h⟩ := h
        refine e3_K [0, 0, 4, 0, 2, 0, 4, 0, 4, 0, 2, 2] 249 [(2, 40), (0, l1), (0, l2), (0, l3), (0, l4), (0, l5), (0, l6), (0, 0), (3, 0)] [(0, (H 47 (H 91 l5))), (0, (H 90 l5)), (2, 40)] (H) (G) (wZ L xs) (M := tbM253) rfl rfl ⟨trivial, o1, trivial, trivial, o2, o3, trivial⟩ ?_
        refine e3_call (o := 0) (k := 255) (M2 := tbM255) (f1 := 2) (w1 := 51) (as := [(2, 40), (0, (H 90 l5)), (0, (H 47 (H 91 l5)))]) (rest := []) (M := tbM253) rfl rfl rfl trivial (Nat.le_of_ble_eq_true rfl) (Nat.le_of_ble_eq_true rfl) (Nat.le_of_ble_eq_true rfl) ?_
        refine e3_mono (sM_layBranches L xs _ _ _ _ _ h) (fun r H4 G5 h => ?_)
        obtain ⟨rfl, h⟩ := h
        change e3_Ev _ _ _ _ 252 [(2, 40), (0, l1), (0, l2), (0, l3), (0, l4), (0, l5), (0, l6), (0, 0), (3, 0)] [] H4 G5 _
        refine e3_K [0, 2, 0, 0] 259 [(2, 40), (0, l1), (0, l2), (0, l3), (0, l4), (0, l5), (0, l6), (0, (e3_w32 (-(H4 40 99)))), (3, 0)] [] (H4) (G5) (wZ L xs) (M := tbM253) rfl rfl ⟨trivial, trivial⟩ ?_
        refine e3_fgt [true, true, true, true, true, true, false, true, false] ?_
        exact sM_asksAt_259 L xs Q k14 hk14 _ _ _ _ _ _ _ _ h
      · replace h := h.2 hc
        refine e3_fgt [true, true, true, true, true, true, false, true, false] ?_
        exact sM_asksAt_259 L xs Q k14 hk14 _ _ _ _ _ _ _ _ h
set_option maxRecDepth 100000 in
set_option maxHeartbeats 4000000 in
theorem sM_asksAt_143 (L : Nat) (xs : Nat → Int32) (Q : Int → e3_H → e3_G → Prop) (k14 : Int → Int → Int → Int → Int → e3_H → e3_G → Prop) (hk14 : ∀ (l1 : Int) (l2 : Int) (l3 : Int) (l4 : Int) (l5 : Int) (H : e3_H) (G : e3_G), k14 l1 l2 l3 l4 l5 H G → e3_Ev (wB L xs) 3 76 253 14 [(2, 40), (0, l1), (0, l2), (0, l3), (0, l4), (0, l5), (3, 0), (3, 0), (3, 0)] [] H G (e3_q0 Q)) (k99 : Int → Int → Int → Int → Int → Int → Int → e3_H → e3_G → Prop) (hk99 : ∀ (l1 : Int) (l2 : Int) (l3 : Int) (l4 : Int) (l5 : Int) (l6 : Int) (l7 : Int) (H : e3_H) (G : e3_G), k99 l1 l2 l3 l4 l5 l6 l7 H G → e3_Ev (wB L xs) 3 76 253 99 [(2, 40), (0, l1), (0, l2), (0, l3), (0, l4), (0, l5), (0, l6), (0, l7), (3, 0)] [] H G (e3_q0 Q)) (l1 : Int) (l2 : Int) (l3 : Int) (l4 : Int) (l5 : Int) (l7 : Int) (s0 : Int) (H : e3_H) (G : e3_G) (h : wM_asksAt_143 Q k14 k99 l1 l2 l3 l4 l5 l7 s0 H G) : e3_Ev (wB L xs) 3 76 253 143 [(2, 40), (0, l1), (0, l2), (0, l3), (0, l4), (0, l5), (3, 0), (0, l7), (3, 0)] [(0, s0)] H G (e3_q0 Q) := by
  unfold wM_asksAt_143 at h
  refine e3_K [0, 0, 0] 99 [(2, 40), (0, l1), (0, l2), (0, l3), (0, l4), (0, l5), (0, s0), (0, (e3_w32 (l7 + 1))), (3, 0)] [] (H) (G) (wZ L xs) (M := tbM253) rfl rfl trivial ?_
  exact hk99 _ _ _ _ _ _ _ _ _ h
set_option maxRecDepth 100000 in
set_option maxHeartbeats 4000000 in
theorem sM_asksAt_138 (L : Nat) (xs : Nat → Int32) (Q : Int → e3_H → e3_G → Prop) (k14 : Int → Int → Int → Int → Int → e3_H → e3_G → Prop) (hk14 : ∀ (l1 : Int) (l2 : Int) (l3 : Int) (l4 : Int) (l5 : Int) (H : e3_H) (G : e3_G), k14 l1 l2 l3 l4 l5 H G → e3_Ev (wB L xs) 3 76 253 14 [(2, 40), (0, l1), (0, l2), (0, l3), (0, l4), (0, l5), (3, 0), (3, 0), (3, 0)] [] H G (e3_q0 Q)) (k99 : Int → Int → Int → Int → Int → Int → Int → e3_H → e3_G → Prop) (hk99 : ∀ (l1 : Int) (l2 : Int) (l3 : Int) (l4 : Int) (l5 : Int) (l6 : Int) (l7 : Int) (H : e3_H) (G : e3_G), k99 l1 l2 l3 l4 l5 l6 l7 H G → e3_Ev (wB L xs) 3 76 253 99 [(2, 40), (0, l1), (0, l2), (0, l3), (0, l4), (0, l5), (0, l6), (0, l7), (3, 0)] [] H G (e3_q0 Q)) (l1 : Int) (l2 : Int) (l3 : Int) (l4 : Int) (l5 : Int) (l7 : Int) (H : e3_H) (G : e3_G) (h : wM_asksAt_138 Q k14 k99 l1 l2 l3 l4 l5 l7 H G) : e3_Ev (wB L xs) 3 76 253 138 [(2, 40), (0, l1), (0, l2), (0, l3), (0, l4), (0, l5), (3, 0), (0, l7), (3, 0)] [] H G (e3_q0 Q) := by
  unfold wM_asksAt_138 at h
  refine e3_K [0, 0] 143 [(2, 40), (0, l1), (0, l2), (0, l3), (0, l4), (0, l5), (3, 0), (0, l7), (3, 0)] [(0, 1)] (H) (G) (wZ L xs) (M := tbM253) rfl rfl trivial ?_
  exact sM_asksAt_143 L xs Q k14 hk14 k99 hk99 _ _ _ _ _ _ _ _ _ h
set_option maxRecDepth 100000 in
set_option maxHeartbeats 4000000 in
theorem sM_asksAt_99 (L : Nat) (xs : Nat → Int32) (Q : Int → e3_H → e3_G → Prop) (k14 : Int → Int → Int → Int → Int → e3_H → e3_G → Prop) (hk14 : ∀ (l1 : Int) (l2 : Int) (l3 : Int) (l4 : Int) (l5 : Int) (H : e3_H) (G : e3_G), k14 l1 l2 l3 l4 l5 H G → e3_Ev (wB L xs) 3 76 253 14 [(2, 40), (0, l1), (0, l2), (0, l3), (0, l4), (0, l5), (3, 0), (3, 0), (3, 0)] [] H G (e3_q0 Q)) : ∀ (nl : Nat) (l1 : Int) (l2 : Int) (l3 : Int) (l4 : Int) (l5 : Int) (l6 : Int) (l7 : Int) (H : e3_H) (G : e3_G), wM_asksAt_99 Q k14 nl l1 l2 l3 l4 l5 l6 l7 H G → e3_Ev (wB L xs) 3 76 253 99 [(2, 40), (0, l1), (0, l2), (0, l3), (0, l4), (0, l5), (0, l6), (0, l7), (3, 0)] [] H G (e3_q0 Q) := by
  intro nl
  induction nl with
  | zero => intro l1 l2 l3 l4 l5 l6 l7 H G h; exact h.elim
  | succ nn ih =>
    intro l1 l2 l3 l4 l5 l6 l7 H G h
    have h : (((l7 : Int) < l5 → (((l6 : Int) = 0 → (wM_asksAt_151 Q k14 l1 l2 l3 l4 l5 l6 H G)) ∧ (¬ ((l6 : Int) = 0) → ((0 : Int) ≤ l7 ∧ (l7 : Int) < 33000) ∧ ((((H 92 l7) : Int) = 0 → ((0 : Int) ≤ l7 ∧ (l7 : Int) < 33000) ∧ ((0 : Int) ≤ l5 ∧ (l5 : Int) < 33000) ∧ ((((H 90 l7) : Int) = (H 90 l5) → (wM_asksAt_143 Q k14 (fun l1 l2 l3 l4 l5 l6 l7 H G => wM_asksAt_99 Q k14 nn l1 l2 l3 l4 l5 l6 l7 H G) l1 l2 l3 l4 l5 l7 0 H G)) ∧ (¬ (((H 90 l7) : Int) = (H 90 l5)) → (wM_asksAt_138 Q k14 (fun l1 l2 l3 l4 l5 l6 l7 H G => wM_asksAt_99 Q k14 nn l1 l2 l3 l4 l5 l6 l7 H G) l1 l2 l3 l4 l5 l7 H G)))) ∧ (¬ (((H 92 l7) : Int) = 0) → (wM_asksAt_138 Q k14 (fun l1 l2 l3 l4 l5 l6 l7 H G => wM_asksAt_99 Q k14 nn l1 l2 l3 l4 l5 l6 l7 H G) l1 l2 l3 l4 l5 l7 H G)))))) ∧ (¬ ((l7 : Int) < l5) → (wM_asksAt_151 Q k14 l1 l2 l3 l4 l5 l6 H G))) := h
    refine e3_K [0, 0] 103 [(2, 40), (0, l1), (0, l2), (0, l3), (0, l4), (0, l5), (0, l6), (0, l7), (3, 0)] [(0, l5), (0, l7)] (H) (G) (wZ L xs) (M := tbM253) rfl rfl trivial ?_
    refine e3_br (M := tbM253) rfl rfl rfl Iff.rfl (fun hc => ?_) (fun hc => ?_)
    · replace h := h.1 hc
      refine e3_K [0] 108 [(2, 40), (0, l1), (0, l2), (0, l3), (0, l4), (0, l5), (0, l6), (0, l7), (3, 0)] [(0, l6)] (H) (G) (wZ L xs) (M := tbM253) rfl rfl trivial ?_
      refine e3_br (M := tbM253) rfl rfl rfl Iff.rfl (fun hc => ?_) (fun hc => ?_)
      · replace h := h.1 hc
        refine e3_fgt [true, true, true, true, true, true, true, false, false] ?_
        exact sM_asksAt_151 L xs Q k14 hk14 _ _ _ _ _ _ _ _ h
      · replace h := h.2 hc
        obtain ⟨o1, h⟩ := h
        refine e3_K [0, 4, 0, 2] 118 [(2, 40), (0, l1), (0, l2), (0, l3), (0, l4), (0, l5), (0, l6), (0, l7), (3, 0)] [(0, (H 92 l7))] (H) (G) (wZ L xs) (M := tbM253) rfl rfl ⟨trivial, o1, trivial⟩ ?_
        refine e3_br (M := tbM253) rfl rfl rfl Iff.rfl (fun hc => ?_) (fun hc => ?_)
        · replace h := h.1 hc
          obtain ⟨o2, o3, h⟩ := h
          refine e3_K [0, 4, 0, 2, 0, 4, 0, 2] 135 [(2, 40), (0, l1), (0, l2), (0, l3), (0, l4), (0, l5), (0, l6), (0, l7), (3, 0)] [(0, (H 90 l5)), (0, (H 90 l7))] (H) (G) (wZ L xs) (M := tbM253) rfl rfl ⟨trivial, o2, trivial, o3, trivial⟩ ?_
          refine e3_br (M := tbM253) rfl rfl rfl Iff.rfl (fun hc => ?_) (fun hc => ?_)
          · replace h := h.1 hc
            refine e3_K [0] 143 [(2, 40), (0, l1), (0, l2), (0, l3), (0, l4), (0, l5), (0, l6), (0, l7), (3, 0)] [(0, 0)] (H) (G) (wZ L xs) (M := tbM253) rfl rfl trivial ?_
            refine e3_fgt [true, true, true, true, true, true, false, true, false] ?_
            exact sM_asksAt_143 L xs Q k14 hk14 (fun l1 l2 l3 l4 l5 l6 l7 H G => wM_asksAt_99 Q k14 nn l1 l2 l3 l4 l5 l6 l7 H G) ih _ _ _ _ _ _ _ _ _ h
          · replace h := h.2 hc
            refine e3_fgt [true, true, true, true, true, true, false, true, false] ?_
            exact sM_asksAt_138 L xs Q k14 hk14 (fun l1 l2 l3 l4 l5 l6 l7 H G => wM_asksAt_99 Q k14 nn l1 l2 l3 l4 l5 l6 l7 H G) ih _ _ _ _ _ _ _ _ h
        · replace h := h.2 hc
          refine e3_fgt [true, true, true, true, true, true, false, true, false] ?_
          exact sM_asksAt_138 L xs Q k14 hk14 (fun l1 l2 l3 l4 l5 l6 l7 H G => wM_asksAt_99 Q k14 nn l1 l2 l3 l4 l5 l6 l7 H G) ih _ _ _ _ _ _ _ _ h
    · replace h := h.2 hc
      refine e3_fgt [true, true, true, true, true, true, true, false, false] ?_
      exact sM_asksAt_151 L xs Q k14 hk14 _ _ _ _ _ _ _ _ h
set_option maxRecDepth 100000 in
set_option maxHeartbeats 4000000 in
theorem sM_asksAt_91 (L : Nat) (xs : Nat → Int32) (Q : Int → e3_H → e3_G → Prop) (k14 : Int → Int → Int → Int → Int → e3_H → e3_G → Prop) (hk14 : ∀ (l1 : Int) (l2 : Int) (l3 : Int) (l4 : Int) (l5 : Int) (H : e3_H) (G : e3_G), k14 l1 l2 l3 l4 l5 H G → e3_Ev (wB L xs) 3 76 253 14 [(2, 40), (0, l1), (0, l2), (0, l3), (0, l4), (0, l5), (3, 0), (3, 0), (3, 0)] [] H G (e3_q0 Q)) (l1 : Int) (l2 : Int) (l3 : Int) (l4 : Int) (l5 : Int) (l6 : Int) (H : e3_H) (G : e3_G) (h : wM_asksAt_91 Q k14 l1 l2 l3 l4 l5 l6 H G) : e3_Ev (wB L xs) 3 76 253 91 [(2, 40), (0, l1), (0, l2), (0, l3), (0, l4), (0, l5), (0, l6), (3, 0), (3, 0)] [] H G (e3_q0 Q) := by
  unfold wM_asksAt_91 at h
  obtain ⟨o1, h⟩ := h
  refine e3_K [0, 4, 0, 2, 0] 99 [(2, 40), (0, l1), (0, l2), (0, l3), (0, l4), (0, l5), (0, l6), (0, (H 88 l1)), (3, 0)] [] (H) (G) (wZ L xs) (M := tbM253) rfl rfl ⟨trivial, o1, trivial⟩ ?_
  obtain ⟨nl, h⟩ := h
  exact sM_asksAt_99 L xs Q k14 hk14 nl _ _ _ _ _ _ _ _ _ h
set_option maxRecDepth 100000 in
set_option maxHeartbeats 4000000 in
theorem sM_asksAt_80 (L : Nat) (xs : Nat → Int32) (Q : Int → e3_H → e3_G → Prop) (k14 : Int → Int → Int → Int → Int → e3_H → e3_G → Prop) (hk14 : ∀ (l1 : Int) (l2 : Int) (l3 : Int) (l4 : Int) (l5 : Int) (H : e3_H) (G : e3_G), k14 l1 l2 l3 l4 l5 H G → e3_Ev (wB L xs) 3 76 253 14 [(2, 40), (0, l1), (0, l2), (0, l3), (0, l4), (0, l5), (3, 0), (3, 0), (3, 0)] [] H G (e3_q0 Q)) (k55 : Int → Int → Int → Int → Int → Int → Int → e3_H → e3_G → Prop) (hk55 : ∀ (l1 : Int) (l2 : Int) (l3 : Int) (l4 : Int) (l5 : Int) (l6 : Int) (l7 : Int) (H : e3_H) (G : e3_G), k55 l1 l2 l3 l4 l5 l6 l7 H G → e3_Ev (wB L xs) 3 76 253 55 [(2, 40), (0, l1), (0, l2), (0, l3), (0, l4), (0, l5), (0, l6), (0, l7), (3, 0)] [] H G (e3_q0 Q)) (l1 : Int) (l2 : Int) (l3 : Int) (l4 : Int) (l5 : Int) (l7 : Int) (s0 : Int) (H : e3_H) (G : e3_G) (h : wM_asksAt_80 Q k14 k55 l1 l2 l3 l4 l5 l7 s0 H G) : e3_Ev (wB L xs) 3 76 253 80 [(2, 40), (0, l1), (0, l2), (0, l3), (0, l4), (0, l5), (3, 0), (0, l7), (3, 0)] [(0, s0)] H G (e3_q0 Q) := by
  unfold wM_asksAt_80 at h
  refine e3_K [0, 0, 0, 0, 0, 0] 55 [(2, 40), (0, l1), (0, l2), (0, l3), (0, l4), (0, l5), (0, s0), (0, (e3_shr l7 3)), (3, 0)] [] (H) (G) (wZ L xs) (M := tbM253) rfl rfl trivial ?_
  exact hk55 _ _ _ _ _ _ _ _ _ h
set_option maxRecDepth 100000 in
set_option maxHeartbeats 4000000 in
theorem sM_asksAt_55 (L : Nat) (xs : Nat → Int32) (Q : Int → e3_H → e3_G → Prop) (k14 : Int → Int → Int → Int → Int → e3_H → e3_G → Prop) (hk14 : ∀ (l1 : Int) (l2 : Int) (l3 : Int) (l4 : Int) (l5 : Int) (H : e3_H) (G : e3_G), k14 l1 l2 l3 l4 l5 H G → e3_Ev (wB L xs) 3 76 253 14 [(2, 40), (0, l1), (0, l2), (0, l3), (0, l4), (0, l5), (3, 0), (3, 0), (3, 0)] [] H G (e3_q0 Q)) : ∀ (nl : Nat) (l1 : Int) (l2 : Int) (l3 : Int) (l4 : Int) (l5 : Int) (l6 : Int) (l7 : Int) (H : e3_H) (G : e3_G), wM_asksAt_55 Q k14 nl l1 l2 l3 l4 l5 l6 l7 H G → e3_Ev (wB L xs) 3 76 253 55 [(2, 40), (0, l1), (0, l2), (0, l3), (0, l4), (0, l5), (0, l6), (0, l7), (3, 0)] [] H G (e3_q0 Q) := by
  intro nl
  induction nl with
  | zero => intro l1 l2 l3 l4 l5 l6 l7 H G h; exact h.elim
  | succ nn ih =>
    intro l1 l2 l3 l4 l5 l6 l7 H G h
    have h : (((0 : Int) < l7 → (((l6 : Int) = 0 → (wM_asksAt_91 Q k14 l1 l2 l3 l4 l5 l6 H G)) ∧ (¬ ((l6 : Int) = 0) → (wM_isLeft (fun x3 H1 G2 => (((x3 : Int) = 0 → (wM_asksAt_80 Q k14 (fun l1 l2 l3 l4 l5 l6 l7 H G => wM_asksAt_55 Q k14 nn l1 l2 l3 l4 l5 l6 l7 H G) l1 l2 l3 l4 l5 l7 1 H1 G2)) ∧ (¬ ((x3 : Int) = 0) → (wM_asksAt_80 Q k14 (fun l1 l2 l3 l4 l5 l6 l7 H G => wM_asksAt_55 Q k14 nn l1 l2 l3 l4 l5 l6 l7 H G) l1 l2 l3 l4 l5 l7 0 H1 G2)))) l1 l7 H G)))) ∧ (¬ ((0 : Int) < l7) → (wM_asksAt_91 Q k14 l1 l2 l3 l4 l5 l6 H G))) := h
    refine e3_K [0] 57 [(2, 40), (0, l1), (0, l2), (0, l3), (0, l4), (0, l5), (0, l6), (0, l7), (3, 0)] [(0, l7)] (H) (G) (wZ L xs) (M := tbM253) rfl rfl trivial ?_
    refine e3_br (M := tbM253) rfl rfl rfl Iff.rfl (fun hc => ?_) (fun hc => ?_)
    · replace h := h.1 hc
      refine e3_K [0] 62 [(2, 40), (0, l1), (0, l2), (0, l3), (0, l4), (0, l5), (0, l6), (0, l7), (3, 0)] [(0, l6)] (H) (G) (wZ L xs) (M := tbM253) rfl rfl trivial ?_
      refine e3_br (M := tbM253) rfl rfl rfl Iff.rfl (fun hc => ?_) (fun hc => ?_)
      · replace h := h.1 hc
        refine e3_fgt [true, true, true, true, true, true, true, false, false] ?_
        exact sM_asksAt_91 L xs Q k14 hk14 _ _ _ _ _ _ _ _ h
      · replace h := h.2 hc
        refine e3_K [0, 0, 0] 69 [(2, 40), (0, l1), (0, l2), (0, l3), (0, l4), (0, l5), (0, l6), (0, l7), (3, 0)] [(0, l7), (0, l1), (2, 40)] (H) (G) (wZ L xs) (M := tbM253) rfl rfl trivial ?_
        refine e3_call (o := 0) (k := 254) (M2 := tbM254) (f1 := 0) (w1 := 0) (as := [(2, 40), (0, l1), (0, l7)]) (rest := []) (M := tbM253) rfl rfl rfl trivial (Nat.le_of_ble_eq_true rfl) (Nat.le_of_ble_eq_true rfl) (Nat.le_of_ble_eq_true rfl) ?_
        refine e3_mono (sM_isLeft L xs _ _ _ _ _ h) (fun r H1 G2 h => ?_)
        obtain ⟨x3, rfl, h⟩ := h
        change e3_Ev _ _ _ _ 72 [(2, 40), (0, l1), (0, l2), (0, l3), (0, l4), (0, l5), (0, l6), (0, l7), (3, 0)] [(0, x3)] H1 G2 _
        refine e3_br (M := tbM253) rfl rfl rfl Iff.rfl (fun hc => ?_) (fun hc => ?_)
        · replace h := h.1 hc
          refine e3_K [0, 0] 80 [(2, 40), (0, l1), (0, l2), (0, l3), (0, l4), (0, l5), (0, l6), (0, l7), (3, 0)] [(0, 1)] (H1) (G2) (wZ L xs) (M := tbM253) rfl rfl trivial ?_
          refine e3_fgt [true, true, true, true, true, true, false, true, false] ?_
          exact sM_asksAt_80 L xs Q k14 hk14 (fun l1 l2 l3 l4 l5 l6 l7 H G => wM_asksAt_55 Q k14 nn l1 l2 l3 l4 l5 l6 l7 H G) ih _ _ _ _ _ _ _ _ _ h
        · replace h := h.2 hc
          refine e3_K [0] 80 [(2, 40), (0, l1), (0, l2), (0, l3), (0, l4), (0, l5), (0, l6), (0, l7), (3, 0)] [(0, 0)] (H1) (G2) (wZ L xs) (M := tbM253) rfl rfl trivial ?_
          refine e3_fgt [true, true, true, true, true, true, false, true, false] ?_
          exact sM_asksAt_80 L xs Q k14 hk14 (fun l1 l2 l3 l4 l5 l6 l7 H G => wM_asksAt_55 Q k14 nn l1 l2 l3 l4 l5 l6 l7 H G) ih _ _ _ _ _ _ _ _ _ h
    · replace h := h.2 hc
      refine e3_fgt [true, true, true, true, true, true, true, false, false] ?_
      exact sM_asksAt_91 L xs Q k14 hk14 _ _ _ _ _ _ _ _ h
set_option maxRecDepth 100000 in
set_option maxHeartbeats 4000000 in
theorem sM_asksAt_42 (L : Nat) (xs : Nat → Int32) (Q : Int → e3_H → e3_G → Prop) (k14 : Int → Int → Int → Int → Int → e3_H → e3_G → Prop) (hk14 : ∀ (l1 : Int) (l2 : Int) (l3 : Int) (l4 : Int) (l5 : Int) (H : e3_H) (G : e3_G), k14 l1 l2 l3 l4 l5 H G → e3_Ev (wB L xs) 3 76 253 14 [(2, 40), (0, l1), (0, l2), (0, l3), (0, l4), (0, l5), (3, 0), (3, 0), (3, 0)] [] H G (e3_q0 Q)) (l1 : Int) (l2 : Int) (l3 : Int) (l4 : Int) (l5 : Int) (s0 : Int) (H : e3_H) (G : e3_G) (h : wM_asksAt_42 Q k14 l1 l2 l3 l4 l5 s0 H G) : e3_Ev (wB L xs) 3 76 253 42 [(2, 40), (0, l1), (0, l2), (0, l3), (0, l4), (0, l5), (3, 0), (3, 0), (3, 0)] [(0, s0)] H G (e3_q0 Q) := by
  unfold wM_asksAt_42 at h
  obtain ⟨o1, h⟩ := h
  refine e3_K [0, 0, 4, 0, 2, 0, 0, 0] 55 [(2, 40), (0, l1), (0, l2), (0, l3), (0, l4), (0, l5), (0, s0), (0, (e3_shr (H 90 l5) 3)), (3, 0)] [] (H) (G) (wZ L xs) (M := tbM253) rfl rfl ⟨trivial, o1, trivial⟩ ?_
  obtain ⟨nl, h⟩ := h
  exact sM_asksAt_55 L xs Q k14 hk14 nl _ _ _ _ _ _ _ _ _ h
set_option maxRecDepth 100000 in
set_option maxHeartbeats 4000000 in
theorem sM_asksAt_14 (L : Nat) (xs : Nat → Int32) (Q : Int → e3_H → e3_G → Prop) : ∀ (nl : Nat) (l1 : Int) (l2 : Int) (l3 : Int) (l4 : Int) (l5 : Int) (H : e3_H) (G : e3_G), wM_asksAt_14 Q nl l1 l2 l3 l4 l5 H G → e3_Ev (wB L xs) 3 76 253 14 [(2, 40), (0, l1), (0, l2), (0, l3), (0, l4), (0, l5), (3, 0), (3, 0), (3, 0)] [] H G (e3_q0 Q) := by
  intro nl
  induction nl with
  | zero => intro l1 l2 l3 l4 l5 H G h; exact h.elim
  | succ nn ih =>
    intro l1 l2 l3 l4 l5 H G h
    have h : ((0 : Int) ≤ (e3_w32 (l1 + 1)) ∧ ((e3_w32 (l1 + 1)) : Int) < 41) ∧ (((l5 : Int) < (H 88 (e3_w32 (l1 + 1))) → ((0 : Int) ≤ l5 ∧ (l5 : Int) < 33000) ∧ ((((H 92 l5) : Int) = 0 → (wM_asksAt_42 Q (fun l1 l2 l3 l4 l5 H G => wM_asksAt_14 Q nn l1 l2 l3 l4 l5 H G) l1 l2 l3 l4 l5 1 H G)) ∧ (¬ (((H 92 l5) : Int) = 0) → (wM_asksAt_42 Q (fun l1 l2 l3 l4 l5 H G => wM_asksAt_14 Q nn l1 l2 l3 l4 l5 H G) l1 l2 l3 l4 l5 0 H G)))) ∧ (¬ ((l5 : Int) < (H 88 (e3_w32 (l1 + 1)))) → Q l3 H G)) := h
    obtain ⟨o1, h⟩ := h
    refine e3_K [0, 0, 4, 0, 0, 0, 2] 24 [(2, 40), (0, l1), (0, l2), (0, l3), (0, l4), (0, l5), (3, 0), (3, 0), (3, 0)] [(0, (H 88 (e3_w32 (l1 + 1)))), (0, l5)] (H) (G) (wZ L xs) (M := tbM253) rfl rfl ⟨trivial, o1, trivial⟩ ?_
    refine e3_br (M := tbM253) rfl rfl rfl Iff.rfl (fun hc => ?_) (fun hc => ?_)
    · replace h := h.1 hc
      obtain ⟨o2, h⟩ := h
      refine e3_K [0, 4, 0, 2] 34 [(2, 40), (0, l1), (0, l2), (0, l3), (0, l4), (0, l5), (3, 0), (3, 0), (3, 0)] [(0, (H 92 l5))] (H) (G) (wZ L xs) (M := tbM253) rfl rfl ⟨trivial, o2, trivial⟩ ?_
      refine e3_br (M := tbM253) rfl rfl rfl Iff.rfl (fun hc => ?_) (fun hc => ?_)
      · replace h := h.1 hc
        refine e3_K [0, 0] 42 [(2, 40), (0, l1), (0, l2), (0, l3), (0, l4), (0, l5), (3, 0), (3, 0), (3, 0)] [(0, 1)] (H) (G) (wZ L xs) (M := tbM253) rfl rfl trivial ?_
        exact sM_asksAt_42 L xs Q (fun l1 l2 l3 l4 l5 H G => wM_asksAt_14 Q nn l1 l2 l3 l4 l5 H G) ih _ _ _ _ _ _ _ _ h
      · replace h := h.2 hc
        refine e3_K [0] 42 [(2, 40), (0, l1), (0, l2), (0, l3), (0, l4), (0, l5), (3, 0), (3, 0), (3, 0)] [(0, 0)] (H) (G) (wZ L xs) (M := tbM253) rfl rfl trivial ?_
        exact sM_asksAt_42 L xs Q (fun l1 l2 l3 l4 l5 H G => wM_asksAt_14 Q nn l1 l2 l3 l4 l5 H G) ih _ _ _ _ _ _ _ _ h
    · replace h := h.2 hc
      refine e3_K [0] 295 [(2, 40), (0, l1), (0, l2), (0, l3), (0, l4), (0, l5), (3, 0), (3, 0), (3, 0)] [(0, l3)] (H) (G) (wZ L xs) (M := tbM253) rfl rfl trivial ?_
      exact e3_reti (M := tbM253) rfl rfl rfl ⟨_, rfl, h⟩
set_option maxRecDepth 100000 in
set_option maxHeartbeats 4000000 in
theorem sM_asksAt (L : Nat) (xs : Nat → Int32) (Q : Int → e3_H → e3_G → Prop) (l1 : Int) (l2 : Int) (H : e3_H) (G : e3_G) (h : wM_asksAt Q l1 l2 H G) : e3_Ev (wB L xs) 3 76 253 0 [(2, 40), (0, l1), (0, l2), (3, 0), (3, 0), (3, 0), (3, 0), (3, 0), (3, 0)] [] H G (e3_q0 Q) := by
  unfold wM_asksAt at h
  obtain ⟨o1, h⟩ := h
  refine e3_K [0, 0, 0, 0, 0, 4, 0, 2, 0] 14 [(2, 40), (0, l1), (0, l2), (0, (-4)), (0, 0), (0, (H 88 l1)), (3, 0), (3, 0), (3, 0)] [] (H) (G) (wZ L xs) (M := tbM253) rfl rfl ⟨trivial, o1, trivial⟩ ?_
  obtain ⟨nl, h⟩ := h
  exact sM_asksAt_14 L xs Q nl _ _ _ _ _ _ _ h
/-- LetterPostModel.layAhead(I)V -/
def wM_layAhead_107 (Q : e3_H → e3_G → Prop)  (H : e3_H) (G : e3_G) : Prop :=
  Q H G
def wM_layAhead_7 (Q : e3_H → e3_G → Prop) : Nat → Int → Int → e3_H → e3_G → Prop
  | 0, _, _, _, _ => False
  | nn + 1, l1, l2, H, G => (((l2 : Int) < 0 → (wM_layAhead_107 Q H G)) ∧ (¬ ((l2 : Int) < 0) → ((((H 40 93) : Int) < 400 → ((0 : Int) ≤ (H 40 93) ∧ ((H 40 93) : Int) < 400) ∧ ∀ H1 : e3_H, H1 = e3_up H 115 (H 40 93) l1 → ((0 : Int) ≤ l2 ∧ (l2 : Int) < 100) ∧ ((0 : Int) ≤ (H1 40 93) ∧ ((H1 40 93) : Int) < 400) ∧ ∀ H3 : e3_H, H3 = e3_up H1 116 (H1 40 93) (H1 120 l2) → ((0 : Int) ≤ l2 ∧ (l2 : Int) < 100) ∧ ((0 : Int) ≤ (H3 40 93) ∧ ((H3 40 93) : Int) < 400) ∧ ∀ H6 : e3_H, H6 = e3_up H3 117 (H3 40 93) (H3 121 l2) → ((0 : Int) ≤ l2 ∧ (l2 : Int) < 100) ∧ ((0 : Int) ≤ (H6 40 93) ∧ ((H6 40 93) : Int) < 400) ∧ ∀ H9 : e3_H, H9 = e3_up H6 118 (H6 40 93) (H6 122 l2) → ((0 : Int) ≤ l2 ∧ (l2 : Int) < 100) ∧ ((0 : Int) ≤ (H9 40 93) ∧ ((H9 40 93) : Int) < 400) ∧ ∀ H12 : e3_H, H12 = e3_up H9 119 (H9 40 93) (e3_and (H9 123 l2) 1) → ∀ H15 : e3_H, H15 = e3_up H12 40 93 (e3_w32 ((H12 40 93) + 1)) → (wM_layAhead_7 Q nn l1 (e3_w32 (l2 + (-1))) H15 G)) ∧ (¬ (((H 40 93) : Int) < 400) → (wM_layAhead_107 Q H G)))))
def wM_layAhead (Q : e3_H → e3_G → Prop) (l1 : Int) (H : e3_H) (G : e3_G) : Prop :=
  (∃ n, wM_layAhead_7 Q n l1 (e3_w32 ((H 40 99) - 1)) H G)
set_option maxRecDepth 100000 in
set_option maxHeartbeats 4000000 in
theorem sM_layAhead_107 (L : Nat) (xs : Nat → Int32) (Q : e3_H → e3_G → Prop)  (H : e3_H) (G : e3_G) (h : wM_layAhead_107 Q  H G) : e3_Ev (wB L xs) 0 0 260 107 [(3, 0), (3, 0), (3, 0)] [] H G (e3_qv Q) := by
  unfold wM_layAhead_107 at h
  exact e3_retv (M := tbM260) rfl rfl rfl ⟨rfl, h⟩
set_option maxRecDepth 100000 in
set_option maxHeartbeats 4000000 in
theorem sM_layAhead_7 (L : Nat) (xs : Nat → Int32) (Q : e3_H → e3_G → Prop) : ∀ (nl : Nat) (l1 : Int) (l2 : Int) (H : e3_H) (G : e3_G), wM_layAhead_7 Q nl l1 l2 H G → e3_Ev (wB L xs) 0 0 260 7 [(2, 40), (0, l1), (0, l2)] [] H G (e3_qv Q) := by
  intro nl
  induction nl with
  | zero => intro l1 l2 H G h; exact h.elim
  | succ nn ih =>
    intro l1 l2 H G h
    have h : (((l2 : Int) < 0 → (wM_layAhead_107 Q H G)) ∧ (¬ ((l2 : Int) < 0) → ((((H 40 93) : Int) < 400 → ((0 : Int) ≤ (H 40 93) ∧ ((H 40 93) : Int) < 400) ∧ ∀ H1 : e3_H, H1 = e3_up H 115 (H 40 93) l1 → ((0 : Int) ≤ l2 ∧ (l2 : Int) < 100) ∧ ((0 : Int) ≤ (H1 40 93) ∧ ((H1 40 93) : Int) < 400) ∧ ∀ H3 : e3_H, H3 = e3_up H1 116 (H1 40 93) (H1 120 l2) → ((0 : Int) ≤ l2 ∧ (l2 : Int) < 100) ∧ ((0 : Int) ≤ (H3 40 93) ∧ ((H3 40 93) : Int) < 400) ∧ ∀ H6 : e3_H, H6 = e3_up H3 117 (H3 40 93) (H3 121 l2) → ((0 : Int) ≤ l2 ∧ (l2 : Int) < 100) ∧ ((0 : Int) ≤ (H6 40 93) ∧ ((H6 40 93) : Int) < 400) ∧ ∀ H9 : e3_H, H9 = e3_up H6 118 (H6 40 93) (H6 122 l2) → ((0 : Int) ≤ l2 ∧ (l2 : Int) < 100) ∧ ((0 : Int) ≤ (H9 40 93) ∧ ((H9 40 93) : Int) < 400) ∧ ∀ H12 : e3_H, H12 = e3_up H9 119 (H9 40 93) (e3_and (H9 123 l2) 1) → ∀ H15 : e3_H, H15 = e3_up H12 40 93 (e3_w32 ((H12 40 93) + 1)) → (wM_layAhead_7 Q nn l1 (e3_w32 (l2 + (-1))) H15 G)) ∧ (¬ (((H 40 93) : Int) < 400) → (wM_layAhead_107 Q H G))))) := h
    refine e3_K [0] 8 [(2, 40), (0, l1), (0, l2)] [(0, l2)] (H) (G) (wZ L xs) (M := tbM260) rfl rfl trivial ?_
    refine e3_br (M := tbM260) rfl rfl rfl Iff.rfl (fun hc => ?_) (fun hc => ?_)
    · replace h := h.1 hc
      refine e3_fgt [false, false, false] ?_
      exact sM_layAhead_107 L xs Q _ _ h
    · replace h := h.2 hc
      refine e3_K [0, 2, 0] 18 [(2, 40), (0, l1), (0, l2)] [(0, 400), (0, (H 40 93))] (H) (G) (wZ L xs) (M := tbM260) rfl rfl ⟨trivial, trivial⟩ ?_
      refine e3_br (M := tbM260) rfl rfl rfl Iff.rfl (fun hc => ?_) (fun hc => ?_)
      · replace h := h.1 hc
        obtain ⟨o2, h⟩ := h
        refine e3_K [0, 4, 0, 2, 0, 2] 31 [(2, 40), (0, l1), (0, l2)] [] (e3_up H 115 (H 40 93) l1) (G) (wZ L xs) (M := tbM260) rfl rfl ⟨trivial, trivial, o2, trivial⟩ ?_
        generalize hH1 : (e3_up H 115 (H 40 93) l1) = H1
        replace h := h H1 hH1.symm
        obtain ⟨o4, o5, h⟩ := h
        refine e3_K [0, 4, 0, 2, 0, 4, 0, 2, 2] 46 [(2, 40), (0, l1), (0, l2)] [] (e3_up H1 116 (H1 40 93) (H1 120 l2)) (G) (wZ L xs) (M := tbM260) rfl rfl ⟨trivial, trivial, trivial, o4, o5, trivial⟩ ?_
        generalize hH3 : (e3_up H1 116 (H1 40 93) (H1 120 l2)) = H3
        replace h := h H3 hH3.symm
        obtain ⟨o7, o8, h⟩ := h
        refine e3_K [0, 4, 0, 2, 0, 4, 0, 2, 2] 61 [(2, 40), (0, l1), (0, l2)] [] (e3_up H3 117 (H3 40 93) (H3 121 l2)) (G) (wZ L xs) (M := tbM260) rfl rfl ⟨trivial, trivial, trivial, o7, o8, trivial⟩ ?_
        generalize hH6 : (e3_up H3 117 (H3 40 93) (H3 121 l2)) = H6
        replace h := h H6 hH6.symm
        obtain ⟨o10, o11, h⟩ := h
        refine e3_K [0, 4, 0, 2, 0, 4, 0, 2, 2] 76 [(2, 40), (0, l1), (0, l2)] [] (e3_up H6 118 (H6 40 93) (H6 122 l2)) (G) (wZ L xs) (M := tbM260) rfl rfl ⟨trivial, trivial, trivial, o10, o11, trivial⟩ ?_
        generalize hH9 : (e3_up H6 118 (H6 40 93) (H6 122 l2)) = H9
        replace h := h H9 hH9.symm
        obtain ⟨o13, o14, h⟩ := h
        refine e3_K [0, 4, 0, 2, 0, 4, 0, 2, 2] 91 [(2, 40), (0, l1), (0, l2)] [] (e3_up H9 119 (H9 40 93) (e3_and (H9 123 l2) 1)) (G) (wZ L xs) (M := tbM260) rfl rfl ⟨trivial, trivial, trivial, o13, o14, trivial⟩ ?_
        generalize hH12 : (e3_up H9 119 (H9 40 93) (e3_and (H9 123 l2) 1)) = H12
        replace h := h H12 hH12.symm
        refine e3_K [0, 0, 2, 0, 0, 2] 101 [(2, 40), (0, l1), (0, l2)] [] (e3_up H12 40 93 (e3_w32 ((H12 40 93) + 1))) (G) (wZ L xs) (M := tbM260) rfl rfl ⟨trivial, trivial, trivial⟩ ?_
        generalize hH15 : (e3_up H12 40 93 (e3_w32 ((H12 40 93) + 1))) = H15
        replace h := h H15 hH15.symm
        refine e3_K [0, 0] 7 [(2, 40), (0, l1), (0, (e3_w32 (l2 + (-1))))] [] (H15) (G) (wZ L xs) (M := tbM260) rfl rfl trivial ?_
        exact ih _ _ _ _ h
      · replace h := h.2 hc
        refine e3_fgt [false, false, false] ?_
        exact sM_layAhead_107 L xs Q _ _ h
set_option maxRecDepth 100000 in
set_option maxHeartbeats 4000000 in
theorem sM_layAhead (L : Nat) (xs : Nat → Int32) (Q : e3_H → e3_G → Prop) (l1 : Int) (H : e3_H) (G : e3_G) (h : wM_layAhead Q l1 H G) : e3_Ev (wB L xs) 0 0 260 0 [(2, 40), (0, l1), (3, 0)] [] H G (e3_qv Q) := by
  unfold wM_layAhead at h
  refine e3_K [0, 2, 0, 0, 0] 7 [(2, 40), (0, l1), (0, (e3_w32 ((H 40 99) - 1)))] [] (H) (G) (wZ L xs) (M := tbM260) rfl rfl ⟨trivial, trivial⟩ ?_
  obtain ⟨nl, h⟩ := h
  exact sM_layAhead_7 L xs Q nl _ _ _ _ h
/-- LetterPostModel.settle(II)V -/
def wM_settle_214 (Q : e3_H → e3_G → Prop) (l1 : Int) (l4 : Int) (l5 : Int) (s0 : Int) (s1 : Int) (H : e3_H) (G : e3_G) : Prop :=
  ((0 : Int) ≤ s1 ∧ (s1 : Int) < 3900) ∧ ∀ H1 : e3_H, H1 = e3_up H 102 s1 s0 → ((0 : Int) ≤ l4 ∧ (l4 : Int) < 33000) ∧ ((0 : Int) ≤ l1 ∧ (l1 : Int) < 3900) ∧ ∀ H3 : e3_H, H3 = e3_up H1 105 l1 (H1 90 l4) → ((0 : Int) ≤ l4 ∧ (l4 : Int) < 33000) ∧ (wM_layBranches (fun H7 G8 => ((0 : Int) ≤ l1 ∧ (l1 : Int) < 3900) ∧ ∀ H10 : e3_H, H10 = e3_up H7 106 l1 (H7 40 99) → (wM_layAhead (fun H12 G13 => Q H12 G13) l1 H10 G8)) (H3 90 l4) l5 H3 G)
def wM_settle_162 (Q : e3_H → e3_G → Prop)  (H : e3_H) (G : e3_G) : Prop :=
  Q H G
def wM_settle_138 (Q : e3_H → e3_G → Prop) (l1 : Int) (l5 : Int) (s0 : Int) (s1 : Int) (H : e3_H) (G : e3_G) : Prop :=
  ((0 : Int) ≤ s1 ∧ (s1 : Int) < 3900) ∧ ∀ H1 : e3_H, H1 = e3_up H 106 s1 s0 → (((l5 : Int) = 0 → (wM_settle_162 Q H1 G)) ∧ (¬ ((l5 : Int) = 0) → ∀ H3 : e3_H, H3 = e3_up H1 40 99 0 → (wM_oneBranch (fun H4 G5 => (wM_layAhead (fun H7 G8 => (wM_settle_162 Q H7 G8)) l1 H4 G5)) 0 0 0 0 H3 G)))
def wM_settle_122 (Q : e3_H → e3_G → Prop) (l1 : Int) (l5 : Int) (s0 : Int) (s1 : Int) (H : e3_H) (G : e3_G) : Prop :=
  ((0 : Int) ≤ s1 ∧ (s1 : Int) < 3900) ∧ ∀ H1 : e3_H, H1 = e3_up H 102 s1 s0 → (((l5 : Int) = 0 → (wM_settle_138 Q l1 l5 0 l1 H1 G)) ∧ (¬ ((l5 : Int) = 0) → (wM_settle_138 Q l1 l5 1 l1 H1 G)))
def wM_settle_105 (Q : e3_H → e3_G → Prop) (l1 : Int) (s0 : Int) (H : e3_H) (G : e3_G) : Prop :=
  (((s0 : Int) = 0 → (wM_settle_122 Q l1 s0 1 l1 H G)) ∧ (¬ ((s0 : Int) = 0) → (wM_settle_122 Q l1 s0 2 l1 H G)))
def wM_settle (Q : e3_H → e3_G → Prop) (l1 : Int) (l2 : Int) (H : e3_H) (G : e3_G) : Prop :=
  (wM_layKnown (fun H1 G2 => (wM_sift (fun x6 H4 G5 => ((0 : Int) ≤ l1 ∧ (l1 : Int) < 3900) ∧ ∀ H7 : e3_H, H7 = e3_up H4 105 l1 (-4) → ((0 : Int) ≤ l1 ∧ (l1 : Int) < 3900) ∧ ∀ H9 : e3_H, H9 = e3_up H7 103 l1 (-4) → ((0 : Int) ≤ l1 ∧ (l1 : Int) < 3900) ∧ ∀ H11 : e3_H, H11 = e3_up H9 106 l1 0 → (((x6 : Int) = (-4) → ((0 : Int) ≤ l1 ∧ (l1 : Int) < 3900) ∧ ∀ H13 : e3_H, H13 = e3_up H11 102 l1 0 → Q H13 G5) ∧ (¬ ((x6 : Int) = (-4)) → (wM_asksAt (fun x17 H15 G16 => (((x17 : Int) = (-4) → ((0 : Int) ≤ x6 ∧ (x6 : Int) < 40) ∧ ((0 : Int) ≤ l1 ∧ (l1 : Int) < 3900) ∧ ∀ H18 : e3_H, H18 = e3_up H15 103 l1 (H15 86 x6) → ((0 : Int) ≤ x6 ∧ (x6 : Int) < 40) ∧ ((0 : Int) ≤ l1 ∧ (l1 : Int) < 3900) ∧ ∀ H21 : e3_H, H21 = e3_up H18 104 l1 (H18 87 x6) → ((0 : Int) ≤ x6 ∧ (x6 : Int) < 40) ∧ ((0 : Int) ≤ (H21 86 x6) ∧ ((H21 86 x6) : Int) < 192) ∧ ((((H21 78 (H21 86 x6)) : Int) = 0 → (wM_settle_105 Q l1 0 H21 G16)) ∧ (¬ (((H21 78 (H21 86 x6)) : Int) = 0) → (wM_settle_105 Q l1 1 H21 G16)))) ∧ (¬ ((x17 : Int) = (-4)) → ((0 : Int) ≤ x17 ∧ (x17 : Int) < 33000) ∧ ((0 : Int) ≤ (H15 91 x17) ∧ ((H15 91 x17) : Int) < 1700) ∧ ((((H15 47 (H15 91 x17)) : Int) < 3 → ((((H15 47 (H15 91 x17)) : Int) = 1 → (wM_settle_214 Q l1 x17 (H15 47 (H15 91 x17)) 4 l1 H15 G16)) ∧ (¬ (((H15 47 (H15 91 x17)) : Int) = 1) → ((((H15 47 (H15 91 x17)) : Int) = 2 → (wM_settle_214 Q l1 x17 (H15 47 (H15 91 x17)) 5 l1 H15 G16)) ∧ (¬ (((H15 47 (H15 91 x17)) : Int) = 2) → (wM_settle_214 Q l1 x17 (H15 47 (H15 91 x17)) 6 l1 H15 G16)))))) ∧ (¬ (((H15 47 (H15 91 x17)) : Int) < 3) → (wM_settle_214 Q l1 x17 (H15 47 (H15 91 x17)) 3 l1 H15 G16)))))) x6 l2 H11 G5)))) H1 G2)) l1 H G)
set_option maxRecDepth 100000 in
set_option maxHeartbeats 4000000 in
theorem sM_settle_214 (L : Nat) (xs : Nat → Int32) (Q : e3_H → e3_G → Prop) (l1 : Int) (l4 : Int) (l5 : Int) (s0 : Int) (s1 : Int) (H : e3_H) (G : e3_G) (h : wM_settle_214 Q l1 l4 l5 s0 s1 H G) : e3_Ev (wB L xs) 4 104 249 214 [(2, 40), (0, l1), (3, 0), (3, 0), (0, l4), (0, l5)] [(0, s0), (0, s1), (2, 102)] H G (e3_qv Q) := by
  unfold wM_settle_214 at h
  obtain ⟨o2, h⟩ := h
  refine e3_K [2] 215 [(2, 40), (0, l1), (3, 0), (3, 0), (0, l4), (0, l5)] [] (e3_up H 102 s1 s0) (G) (wZ L xs) (M := tbM249) rfl rfl ⟨o2, trivial⟩ ?_
  generalize hH1 : (e3_up H 102 s1 s0) = H1
  replace h := h H1 hH1.symm
  obtain ⟨o4, o5, h⟩ := h
  refine e3_K [0, 4, 0, 0, 4, 0, 2, 2] 228 [(2, 40), (0, l1), (3, 0), (3, 0), (0, l4), (0, l5)] [] (e3_up H1 105 l1 (H1 90 l4)) (G) (wZ L xs) (M := tbM249) rfl rfl ⟨trivial, trivial, o4, o5, trivial⟩ ?_
  generalize hH3 : (e3_up H1 105 l1 (H1 90 l4)) = H3
  replace h := h H3 hH3.symm
  obtain ⟨o6, h⟩ := h
  refine e3_K [0, 0, 4, 0, 2, 0] 238 [(2, 40), (0, l1), (3, 0), (3, 0), (0, l4), (0, l5)] [(0, l5), (0, (H3 90 l4)), (2, 40)] (H3) (G) (wZ L xs) (M := tbM249) rfl rfl ⟨trivial, o6, trivial⟩ ?_
  refine e3_call (o := 0) (k := 255) (M2 := tbM255) (f1 := 2) (w1 := 51) (as := [(2, 40), (0, (H3 90 l4)), (0, l5)]) (rest := []) (M := tbM249) rfl rfl rfl trivial (Nat.le_of_ble_eq_true rfl) (Nat.le_of_ble_eq_true rfl) (Nat.le_of_ble_eq_true rfl) ?_
  refine e3_mono (sM_layBranches L xs _ _ _ _ _ h) (fun r H7 G8 h => ?_)
  obtain ⟨rfl, h⟩ := h
  change e3_Ev _ _ _ _ 241 [(2, 40), (0, l1), (3, 0), (3, 0), (0, l4), (0, l5)] [] H7 G8 _
  obtain ⟨o11, h⟩ := h
  refine e3_K [0, 4, 0, 0, 2, 2] 251 [(2, 40), (0, l1), (3, 0), (3, 0), (0, l4), (0, l5)] [] (e3_up H7 106 l1 (H7 40 99)) (G8) (wZ L xs) (M := tbM249) rfl rfl ⟨trivial, trivial, o11, trivial⟩ ?_
  generalize hH10 : (e3_up H7 106 l1 (H7 40 99)) = H10
  replace h := h H10 hH10.symm
  refine e3_K [0, 0] 253 [(2, 40), (0, l1), (3, 0), (3, 0), (0, l4), (0, l5)] [(0, l1), (2, 40)] (H10) (G8) (wZ L xs) (M := tbM249) rfl rfl trivial ?_
  refine e3_call (o := 0) (k := 260) (M2 := tbM260) (f1 := 0) (w1 := 0) (as := [(2, 40), (0, l1)]) (rest := []) (M := tbM249) rfl rfl rfl trivial (Nat.le_of_ble_eq_true rfl) (Nat.le_of_ble_eq_true rfl) (Nat.le_of_ble_eq_true rfl) ?_
  refine e3_mono (sM_layAhead L xs _ _ _ _ h) (fun r H12 G13 h => ?_)
  obtain ⟨rfl, h⟩ := h
  change e3_Ev _ _ _ _ 256 [(2, 40), (0, l1), (3, 0), (3, 0), (0, l4), (0, l5)] [] H12 G13 _
  exact e3_retv (M := tbM249) rfl rfl rfl ⟨rfl, h⟩
set_option maxRecDepth 100000 in
set_option maxHeartbeats 4000000 in
theorem sM_settle_162 (L : Nat) (xs : Nat → Int32) (Q : e3_H → e3_G → Prop)  (H : e3_H) (G : e3_G) (h : wM_settle_162 Q  H G) : e3_Ev (wB L xs) 4 104 249 162 [(3, 0), (3, 0), (3, 0), (3, 0), (3, 0), (3, 0)] [] H G (e3_qv Q) := by
  unfold wM_settle_162 at h
  exact e3_retv (M := tbM249) rfl rfl rfl ⟨rfl, h⟩
set_option maxRecDepth 100000 in
set_option maxHeartbeats 4000000 in
theorem sM_settle_138 (L : Nat) (xs : Nat → Int32) (Q : e3_H → e3_G → Prop) (l1 : Int) (l5 : Int) (s0 : Int) (s1 : Int) (H : e3_H) (G : e3_G) (h : wM_settle_138 Q l1 l5 s0 s1 H G) : e3_Ev (wB L xs) 4 104 249 138 [(2, 40), (0, l1), (3, 0), (3, 0), (3, 0), (0, l5)] [(0, s0), (0, s1), (2, 106)] H G (e3_qv Q) := by
  unfold wM_settle_138 at h
  obtain ⟨o2, h⟩ := h
  refine e3_K [2] 139 [(2, 40), (0, l1), (3, 0), (3, 0), (3, 0), (0, l5)] [] (e3_up H 106 s1 s0) (G) (wZ L xs) (M := tbM249) rfl rfl ⟨o2, trivial⟩ ?_
  generalize hH1 : (e3_up H 106 s1 s0) = H1
  replace h := h H1 hH1.symm
  refine e3_K [0] 141 [(2, 40), (0, l1), (3, 0), (3, 0), (3, 0), (0, l5)] [(0, l5)] (H1) (G) (wZ L xs) (M := tbM249) rfl rfl trivial ?_
  refine e3_br (M := tbM249) rfl rfl rfl Iff.rfl (fun hc => ?_) (fun hc => ?_)
  · replace h := h.1 hc
    refine e3_fgt [false, false, false, false, false, false] ?_
    exact sM_settle_162 L xs Q _ _ h
  · replace h := h.2 hc
    refine e3_K [0, 0, 2] 149 [(2, 40), (0, l1), (3, 0), (3, 0), (3, 0), (0, l5)] [] (e3_up H1 40 99 0) (G) (wZ L xs) (M := tbM249) rfl rfl ⟨trivial, trivial⟩ ?_
    generalize hH3 : (e3_up H1 40 99 0) = H3
    replace h := h H3 hH3.symm
    refine e3_K [0, 0, 0, 0, 0] 154 [(2, 40), (0, l1), (3, 0), (3, 0), (3, 0), (0, l5)] [(0, 0), (1, 0), (0, 0), (0, 0), (2, 40)] (H3) (G) (wZ L xs) (M := tbM249) rfl rfl trivial ?_
    refine e3_call (o := 0) (k := 256) (M2 := tbM256) (f1 := 0) (w1 := 0) (as := [(2, 40), (0, 0), (0, 0), (1, 0), (0, 0)]) (rest := []) (M := tbM249) rfl rfl rfl trivial (Nat.le_of_ble_eq_true rfl) (Nat.le_of_ble_eq_true rfl) (Nat.le_of_ble_eq_true rfl) ?_
    refine e3_mono (sM_oneBranch L xs _ _ _ _ _ _ _ h) (fun r H4 G5 h => ?_)
    obtain ⟨rfl, h⟩ := h
    change e3_Ev _ _ _ _ 157 [(2, 40), (0, l1), (3, 0), (3, 0), (3, 0), (0, l5)] [] H4 G5 _
    refine e3_K [0, 0] 159 [(2, 40), (0, l1), (3, 0), (3, 0), (3, 0), (0, l5)] [(0, l1), (2, 40)] (H4) (G5) (wZ L xs) (M := tbM249) rfl rfl trivial ?_
    refine e3_call (o := 0) (k := 260) (M2 := tbM260) (f1 := 0) (w1 := 0) (as := [(2, 40), (0, l1)]) (rest := []) (M := tbM249) rfl rfl rfl trivial (Nat.le_of_ble_eq_true rfl) (Nat.le_of_ble_eq_true rfl) (Nat.le_of_ble_eq_true rfl) ?_
    refine e3_mono (sM_layAhead L xs _ _ _ _ h) (fun r H7 G8 h => ?_)
    obtain ⟨rfl, h⟩ := h
    change e3_Ev _ _ _ _ 162 [(2, 40), (0, l1), (3, 0), (3, 0), (3, 0), (0, l5)] [] H7 G8 _
    refine e3_fgt [false, false, false, false, false, false] ?_
    exact sM_settle_162 L xs Q _ _ h
set_option maxRecDepth 100000 in
set_option maxHeartbeats 4000000 in
theorem sM_settle_122 (L : Nat) (xs : Nat → Int32) (Q : e3_H → e3_G → Prop) (l1 : Int) (l5 : Int) (s0 : Int) (s1 : Int) (H : e3_H) (G : e3_G) (h : wM_settle_122 Q l1 l5 s0 s1 H G) : e3_Ev (wB L xs) 4 104 249 122 [(2, 40), (0, l1), (3, 0), (3, 0), (3, 0), (0, l5)] [(0, s0), (0, s1), (2, 102)] H G (e3_qv Q) := by
  unfold wM_settle_122 at h
  obtain ⟨o2, h⟩ := h
  refine e3_K [2] 123 [(2, 40), (0, l1), (3, 0), (3, 0), (3, 0), (0, l5)] [] (e3_up H 102 s1 s0) (G) (wZ L xs) (M := tbM249) rfl rfl ⟨o2, trivial⟩ ?_
  generalize hH1 : (e3_up H 102 s1 s0) = H1
  replace h := h H1 hH1.symm
  refine e3_K [0, 4, 0, 0] 130 [(2, 40), (0, l1), (3, 0), (3, 0), (3, 0), (0, l5)] [(0, l5), (0, l1), (2, 106)] (H1) (G) (wZ L xs) (M := tbM249) rfl rfl ⟨trivial, trivial⟩ ?_
  refine e3_br (M := tbM249) rfl rfl rfl Iff.rfl (fun hc => ?_) (fun hc => ?_)
  · replace h := h.1 hc
    refine e3_K [0] 138 [(2, 40), (0, l1), (3, 0), (3, 0), (3, 0), (0, l5)] [(0, 0), (0, l1), (2, 106)] (H1) (G) (wZ L xs) (M := tbM249) rfl rfl trivial ?_
    exact sM_settle_138 L xs Q _ _ _ _ _ _ h
  · replace h := h.2 hc
    refine e3_K [0, 0] 138 [(2, 40), (0, l1), (3, 0), (3, 0), (3, 0), (0, l5)] [(0, 1), (0, l1), (2, 106)] (H1) (G) (wZ L xs) (M := tbM249) rfl rfl trivial ?_
    exact sM_settle_138 L xs Q _ _ _ _ _ _ h
set_option maxRecDepth 100000 in
set_option maxHeartbeats 4000000 in
theorem sM_settle_105 (L : Nat) (xs : Nat → Int32) (Q : e3_H → e3_G → Prop) (l1 : Int) (s0 : Int) (H : e3_H) (G : e3_G) (h : wM_settle_105 Q l1 s0 H G) : e3_Ev (wB L xs) 4 104 249 105 [(2, 40), (0, l1), (3, 0), (3, 0), (3, 0), (3, 0)] [(0, s0)] H G (e3_qv Q) := by
  unfold wM_settle_105 at h
  refine e3_K [0, 0, 4, 0, 0] 114 [(2, 40), (0, l1), (3, 0), (3, 0), (3, 0), (0, s0)] [(0, s0), (0, l1), (2, 102)] (H) (G) (wZ L xs) (M := tbM249) rfl rfl ⟨trivial, trivial⟩ ?_
  refine e3_br (M := tbM249) rfl rfl rfl Iff.rfl (fun hc => ?_) (fun hc => ?_)
  · replace h := h.1 hc
    refine e3_K [0] 122 [(2, 40), (0, l1), (3, 0), (3, 0), (3, 0), (0, s0)] [(0, 1), (0, l1), (2, 102)] (H) (G) (wZ L xs) (M := tbM249) rfl rfl trivial ?_
    exact sM_settle_122 L xs Q _ _ _ _ _ _ h
  · replace h := h.2 hc
    refine e3_K [0, 0] 122 [(2, 40), (0, l1), (3, 0), (3, 0), (3, 0), (0, s0)] [(0, 2), (0, l1), (2, 102)] (H) (G) (wZ L xs) (M := tbM249) rfl rfl trivial ?_
    exact sM_settle_122 L xs Q _ _ _ _ _ _ h
set_option maxRecDepth 100000 in
set_option maxHeartbeats 4000000 in
theorem sM_settle (L : Nat) (xs : Nat → Int32) (Q : e3_H → e3_G → Prop) (l1 : Int) (l2 : Int) (H : e3_H) (G : e3_G) (h : wM_settle Q l1 l2 H G) : e3_Ev (wB L xs) 4 104 249 0 [(2, 40), (0, l1), (0, l2), (3, 0), (3, 0), (3, 0)] [] H G (e3_qv Q) := by
  unfold wM_settle at h
  refine e3_K [0, 0] 2 [(2, 40), (0, l1), (0, l2), (3, 0), (3, 0), (3, 0)] [(0, l1), (2, 40)] (H) (G) (wZ L xs) (M := tbM249) rfl rfl trivial ?_
  refine e3_call (o := 0) (k := 250) (M2 := tbM250) (f1 := 0) (w1 := 0) (as := [(2, 40), (0, l1)]) (rest := []) (M := tbM249) rfl rfl rfl trivial (Nat.le_of_ble_eq_true rfl) (Nat.le_of_ble_eq_true rfl) (Nat.le_of_ble_eq_true rfl) ?_
  refine e3_mono (sM_layKnown L xs _ _ _ _ h) (fun r H1 G2 h => ?_)
  obtain ⟨rfl, h⟩ := h
  change e3_Ev _ _ _ _ 5 [(2, 40), (0, l1), (0, l2), (3, 0), (3, 0), (3, 0)] [] H1 G2 _
  refine e3_K [0] 6 [(2, 40), (0, l1), (0, l2), (3, 0), (3, 0), (3, 0)] [(2, 40)] (H1) (G2) (wZ L xs) (M := tbM249) rfl rfl trivial ?_
  refine e3_call (o := 0) (k := 251) (M2 := tbM251) (f1 := 2) (w1 := 47) (as := [(2, 40)]) (rest := []) (M := tbM249) rfl rfl rfl trivial (Nat.le_of_ble_eq_true rfl) (Nat.le_of_ble_eq_true rfl) (Nat.le_of_ble_eq_true rfl) ?_
  refine e3_mono (sM_sift L xs _ _ _ h) (fun r H4 G5 h => ?_)
  obtain ⟨x6, rfl, h⟩ := h
  change e3_Ev _ _ _ _ 9 [(2, 40), (0, l1), (0, l2), (3, 0), (3, 0), (3, 0)] [(0, x6)] H4 G5 _
  obtain ⟨o8, h⟩ := h
  refine e3_K [0, 0, 4, 0, 0, 2] 18 [(2, 40), (0, l1), (0, l2), (0, x6), (3, 0), (3, 0)] [] (e3_up H4 105 l1 (-4)) (G5) (wZ L xs) (M := tbM249) rfl rfl ⟨trivial, o8, trivial⟩ ?_
  generalize hH7 : (e3_up H4 105 l1 (-4)) = H7
  replace h := h H7 hH7.symm
  obtain ⟨o10, h⟩ := h
  refine e3_K [0, 4, 0, 0, 2] 26 [(2, 40), (0, l1), (0, l2), (0, x6), (3, 0), (3, 0)] [] (e3_up H7 103 l1 (-4)) (G5) (wZ L xs) (M := tbM249) rfl rfl ⟨trivial, o10, trivial⟩ ?_
  generalize hH9 : (e3_up H7 103 l1 (-4)) = H9
  replace h := h H9 hH9.symm
  obtain ⟨o12, h⟩ := h
  refine e3_K [0, 4, 0, 0, 2] 33 [(2, 40), (0, l1), (0, l2), (0, x6), (3, 0), (3, 0)] [] (e3_up H9 106 l1 0) (G5) (wZ L xs) (M := tbM249) rfl rfl ⟨trivial, o12, trivial⟩ ?_
  generalize hH11 : (e3_up H9 106 l1 0) = H11
  replace h := h H11 hH11.symm
  refine e3_K [0, 0] 36 [(2, 40), (0, l1), (0, l2), (0, x6), (3, 0), (3, 0)] [(0, (-4)), (0, x6)] (H11) (G5) (wZ L xs) (M := tbM249) rfl rfl trivial ?_
  refine e3_br (M := tbM249) rfl rfl rfl Iff.rfl (fun hc => ?_) (fun hc => ?_)
  · replace h := h.1 hc
    obtain ⟨o14, h⟩ := h
    refine e3_K [0, 4, 0, 0, 2] 46 [(2, 40), (0, l1), (0, l2), (0, x6), (3, 0), (3, 0)] [] (e3_up H11 102 l1 0) (G5) (wZ L xs) (M := tbM249) rfl rfl ⟨trivial, o14, trivial⟩ ?_
    generalize hH13 : (e3_up H11 102 l1 0) = H13
    replace h := h H13 hH13.symm
    exact e3_retv (M := tbM249) rfl rfl rfl ⟨rfl, h⟩
  · replace h := h.2 hc
    refine e3_K [0, 0, 0] 50 [(2, 40), (0, l1), (0, l2), (0, x6), (3, 0), (3, 0)] [(0, l2), (0, x6), (2, 40)] (H11) (G5) (wZ L xs) (M := tbM249) rfl rfl trivial ?_
    refine e3_call (o := 0) (k := 253) (M2 := tbM253) (f1 := 3) (w1 := 76) (as := [(2, 40), (0, x6), (0, l2)]) (rest := []) (M := tbM249) rfl rfl rfl trivial (Nat.le_of_ble_eq_true rfl) (Nat.le_of_ble_eq_true rfl) (Nat.le_of_ble_eq_true rfl) ?_
    refine e3_mono (sM_asksAt L xs _ _ _ _ _ h) (fun r H15 G16 h => ?_)
    obtain ⟨x17, rfl, h⟩ := h
    change e3_Ev _ _ _ _ 53 [(2, 40), (0, l1), (0, l2), (0, x6), (3, 0), (3, 0)] [(0, x17)] H15 G16 _
    refine e3_K [0, 0, 0] 59 [(2, 40), (0, l1), (0, l2), (0, x6), (0, x17), (3, 0)] [(0, (-4)), (0, x17)] (H15) (G16) (wZ L xs) (M := tbM249) rfl rfl trivial ?_
    refine e3_br (M := tbM249) rfl rfl rfl Iff.rfl (fun hc => ?_) (fun hc => ?_)
    · replace h := h.1 hc
      obtain ⟨o19, o20, h⟩ := h
      refine e3_K [0, 4, 0, 0, 4, 0, 2, 2] 74 [(2, 40), (0, l1), (0, l2), (0, x6), (0, x17), (3, 0)] [] (e3_up H15 103 l1 (H15 86 x6)) (G16) (wZ L xs) (M := tbM249) rfl rfl ⟨trivial, trivial, o19, o20, trivial⟩ ?_
      generalize hH18 : (e3_up H15 103 l1 (H15 86 x6)) = H18
      replace h := h H18 hH18.symm
      obtain ⟨o22, o23, h⟩ := h
      refine e3_K [0, 4, 0, 0, 4, 0, 2, 2] 86 [(2, 40), (0, l1), (0, l2), (0, x6), (0, x17), (3, 0)] [] (e3_up H18 104 l1 (H18 87 x6)) (G16) (wZ L xs) (M := tbM249) rfl rfl ⟨trivial, trivial, o22, o23, trivial⟩ ?_
      generalize hH21 : (e3_up H18 104 l1 (H18 87 x6)) = H21
      replace h := h H21 hH21.symm
      obtain ⟨o24, o25, h⟩ := h
      refine e3_K [0, 4, 0, 4, 0, 2, 2] 97 [(2, 40), (0, l1), (0, l2), (0, x6), (0, x17), (3, 0)] [(0, (H21 78 (H21 86 x6)))] (H21) (G16) (wZ L xs) (M := tbM249) rfl rfl ⟨trivial, trivial, o24, o25, trivial⟩ ?_
      refine e3_br (M := tbM249) rfl rfl rfl Iff.rfl (fun hc => ?_) (fun hc => ?_)
      · replace h := h.1 hc
        refine e3_K [0] 105 [(2, 40), (0, l1), (0, l2), (0, x6), (0, x17), (3, 0)] [(0, 0)] (H21) (G16) (wZ L xs) (M := tbM249) rfl rfl trivial ?_
        refine e3_fgt [true, true, false, false, false, false] ?_
        exact sM_settle_105 L xs Q _ _ _ _ h
      · replace h := h.2 hc
        refine e3_K [0, 0] 105 [(2, 40), (0, l1), (0, l2), (0, x6), (0, x17), (3, 0)] [(0, 1)] (H21) (G16) (wZ L xs) (M := tbM249) rfl rfl trivial ?_
        refine e3_fgt [true, true, false, false, false, false] ?_
        exact sM_settle_105 L xs Q _ _ _ _ h
    · replace h := h.2 hc
      obtain ⟨o26, o27, h⟩ := h
      refine e3_K [0, 4, 0, 4, 0, 2, 2, 0, 0, 4, 0, 0, 0] 185 [(2, 40), (0, l1), (0, l2), (0, x6), (0, x17), (0, (H15 47 (H15 91 x17)))] [(0, 3), (0, (H15 47 (H15 91 x17))), (0, l1), (2, 102)] (H15) (G16) (wZ L xs) (M := tbM249) rfl rfl ⟨trivial, trivial, o26, o27, trivial, trivial⟩ ?_
      refine e3_br (M := tbM249) rfl rfl rfl Iff.rfl (fun hc => ?_) (fun hc => ?_)
      · replace h := h.1 hc
        refine e3_K [0, 0] 195 [(2, 40), (0, l1), (0, l2), (0, x6), (0, x17), (0, (H15 47 (H15 91 x17)))] [(0, 1), (0, (H15 47 (H15 91 x17))), (0, l1), (2, 102)] (H15) (G16) (wZ L xs) (M := tbM249) rfl rfl trivial ?_
        refine e3_br (M := tbM249) rfl rfl rfl Iff.rfl (fun hc => ?_) (fun hc => ?_)
        · replace h := h.1 hc
          refine e3_K [0, 0] 214 [(2, 40), (0, l1), (0, l2), (0, x6), (0, x17), (0, (H15 47 (H15 91 x17)))] [(0, 4), (0, l1), (2, 102)] (H15) (G16) (wZ L xs) (M := tbM249) rfl rfl trivial ?_
          refine e3_fgt [true, true, false, false, true, true] ?_
          exact sM_settle_214 L xs Q _ _ _ _ _ _ _ h
        · replace h := h.2 hc
          refine e3_K [0, 0] 205 [(2, 40), (0, l1), (0, l2), (0, x6), (0, x17), (0, (H15 47 (H15 91 x17)))] [(0, 2), (0, (H15 47 (H15 91 x17))), (0, l1), (2, 102)] (H15) (G16) (wZ L xs) (M := tbM249) rfl rfl trivial ?_
          refine e3_br (M := tbM249) rfl rfl rfl Iff.rfl (fun hc => ?_) (fun hc => ?_)
          · replace h := h.1 hc
            refine e3_K [0, 0] 214 [(2, 40), (0, l1), (0, l2), (0, x6), (0, x17), (0, (H15 47 (H15 91 x17)))] [(0, 5), (0, l1), (2, 102)] (H15) (G16) (wZ L xs) (M := tbM249) rfl rfl trivial ?_
            refine e3_fgt [true, true, false, false, true, true] ?_
            exact sM_settle_214 L xs Q _ _ _ _ _ _ _ h
          · replace h := h.2 hc
            refine e3_K [0] 214 [(2, 40), (0, l1), (0, l2), (0, x6), (0, x17), (0, (H15 47 (H15 91 x17)))] [(0, 6), (0, l1), (2, 102)] (H15) (G16) (wZ L xs) (M := tbM249) rfl rfl trivial ?_
            refine e3_fgt [true, true, false, false, true, true] ?_
            exact sM_settle_214 L xs Q _ _ _ _ _ _ _ h
      · replace h := h.2 hc
        refine e3_K [0, 0] 214 [(2, 40), (0, l1), (0, l2), (0, x6), (0, x17), (0, (H15 47 (H15 91 x17)))] [(0, 3), (0, l1), (2, 102)] (H15) (G16) (wZ L xs) (M := tbM249) rfl rfl trivial ?_
        refine e3_fgt [true, true, false, false, true, true] ?_
        exact sM_settle_214 L xs Q _ _ _ _ _ _ _ h
