/-- LetterPost$Reader.readConstant(LLetterPost$Pattern;)Z -/
def wR_readConstant_100 (Q : Int → e3_H → e3_G → Prop)  (H : e3_H) (G : e3_G) : Prop :=
  (wT_step (fun H1 G2 => Q 1 H1 G2) H G)
def wR_readConstant (Q : Int → e3_H → e3_G → Prop) (l1 : Int) (H : e3_H) (G : e3_G) : Prop :=
  ((((H 3 7) : Int) = 261 → (e3_ob G 10 l1) ∧ (wA_want (fun H1 G2 => (wR_readConstant_100 Q H1 G2)) l1 (H 3 9) (H 3 9) H G)) ∧ (((H 3 7) : Int) = 278 → (e3_ob G 10 l1) ∧ (wA_want (fun H4 G5 => (wR_readConstant_100 Q H4 G5)) l1 1 1 H G)) ∧ (((H 3 7) : Int) = 279 → (e3_ob G 10 l1) ∧ (wA_want (fun H7 G8 => (wR_readConstant_100 Q H7 G8)) l1 0 0 H G)) ∧ (((H 3 7) : Int) = 280 → (e3_ob G 10 l1) ∧ (wA_want (fun H10 G11 => (wR_readConstant_100 Q H10 G11)) l1 ((-1 : Int64).toInt) ((-1 : Int64).toInt) H G)) ∧ (¬ ((H 3 7) : Int) = 261 ∧ ¬ ((H 3 7) : Int) = 278 ∧ ¬ ((H 3 7) : Int) = 279 ∧ ¬ ((H 3 7) : Int) = 280 → (wR_readConstant_100 Q H G)))
set_option maxRecDepth 100000 in
set_option maxHeartbeats 4000000 in
theorem sR_readConstant_100 (L : Nat) (xs : Nat → Int32) (Q : Int → e3_H → e3_G → Prop)  (H : e3_H) (G : e3_G) (h : wR_readConstant_100 Q  H G) : e3_Ev (wB L xs) 1 24 72 100 [(2, 14), (3, 0)] [] H G (e3_q0 Q) := by
  unfold wR_readConstant_100 at h
  refine e3_K [0, 4] 104 [(2, 14), (3, 0)] [(2, 3)] (H) (G) (wZ L xs) (M := tbM72) rfl rfl ⟨trivial, trivial⟩ ?_
  refine e3_call (o := 0) (k := 25) (M2 := tbM25) (f1 := 0) (w1 := 0) (as := [(2, 3)]) (rest := []) (M := tbM72) rfl rfl rfl trivial (Nat.le_of_ble_eq_true rfl) (Nat.le_of_ble_eq_true rfl) (Nat.le_of_ble_eq_true rfl) ?_
  refine e3_mono (sT_step L xs _ _ _ h) (fun r H1 G2 h => ?_)
  obtain ⟨rfl, h⟩ := h
  change e3_Ev _ _ _ _ 107 [(2, 14), (3, 0)] [] H1 G2 _
  refine e3_K [0] 108 [(2, 14), (3, 0)] [(0, 1)] (H1) (G2) (wZ L xs) (M := tbM72) rfl rfl trivial ?_
  exact e3_retb (M := tbM72) rfl rfl rfl (Or.inr rfl) ⟨_, rfl, h⟩
set_option maxRecDepth 100000 in
set_option maxHeartbeats 4000000 in
theorem sR_readConstant (L : Nat) (xs : Nat → Int32) (Q : Int → e3_H → e3_G → Prop) (l1 : Int) (H : e3_H) (G : e3_G) (h : wR_readConstant Q l1 H G) : e3_Ev (wB L xs) 1 24 72 0 [(2, 14), (2, l1)] [] H G (e3_q0 Q) := by
  unfold wR_readConstant at h
  refine e3_K [0, 4, 2] 7 [(2, 14), (2, l1)] [(0, (H 3 7))] (H) (G) (wZ L xs) (M := tbM72) rfl rfl ⟨trivial, trivial, trivial⟩ ?_
  by_cases hc0 : ((H 3 7) : Int) = 261
  · replace h := h.1 hc0
    refine e3_sw (M := tbM72) rfl rfl hc0 rfl ?_
    refine e3_K [0, 0, 4, 2, 0, 4, 2] 81 [(2, 14), (2, l1)] [(1, (H 3 9)), (1, (H 3 9)), (2, l1)] (H) (G) (wZ L xs) (M := tbM72) rfl rfl ⟨trivial, trivial, trivial, trivial, trivial⟩ ?_
    obtain ⟨oz, h⟩ := h
    refine e3_call (o := 1) (k := 64) (M2 := tbM64) (f1 := 0) (w1 := 0) (as := [(2, l1), (1, (H 3 9)), (1, (H 3 9))]) (rest := []) (M := tbM72) rfl rfl rfl oz (Nat.le_of_ble_eq_true rfl) (Nat.le_of_ble_eq_true rfl) (Nat.le_of_ble_eq_true rfl) ?_
    refine e3_mono (sA_want L xs _ _ _ _ _ _ h) (fun r H1 G2 h => ?_)
    obtain ⟨rfl, h⟩ := h
    change e3_Ev _ _ _ _ 84 [(2, 14), (2, l1)] [] H1 G2 _
    refine e3_K [0] 100 [(2, 14), (2, l1)] [] (H1) (G2) (wZ L xs) (M := tbM72) rfl rfl trivial ?_
    refine e3_fgt [true, false] ?_
    exact sR_readConstant_100 L xs Q _ _ h
  replace h := h.2
  by_cases hc1 : ((H 3 7) : Int) = 278
  · replace h := h.1 hc1
    refine e3_sw (M := tbM72) rfl rfl hc1 rfl ?_
    refine e3_K [0, 0, 0] 51 [(2, 14), (2, l1)] [(1, 1), (1, 1), (2, l1)] (H) (G) (wZ L xs) (M := tbM72) rfl rfl trivial ?_
    obtain ⟨oz, h⟩ := h
    refine e3_call (o := 1) (k := 64) (M2 := tbM64) (f1 := 0) (w1 := 0) (as := [(2, l1), (1, 1), (1, 1)]) (rest := []) (M := tbM72) rfl rfl rfl oz (Nat.le_of_ble_eq_true rfl) (Nat.le_of_ble_eq_true rfl) (Nat.le_of_ble_eq_true rfl) ?_
    refine e3_mono (sA_want L xs _ _ _ _ _ _ h) (fun r H4 G5 h => ?_)
    obtain ⟨rfl, h⟩ := h
    change e3_Ev _ _ _ _ 54 [(2, 14), (2, l1)] [] H4 G5 _
    refine e3_K [0] 100 [(2, 14), (2, l1)] [] (H4) (G5) (wZ L xs) (M := tbM72) rfl rfl trivial ?_
    refine e3_fgt [true, false] ?_
    exact sR_readConstant_100 L xs Q _ _ h
  replace h := h.2
  by_cases hc2 : ((H 3 7) : Int) = 279
  · replace h := h.1 hc2
    refine e3_sw (M := tbM72) rfl rfl hc2 rfl ?_
    refine e3_K [0, 0, 0] 60 [(2, 14), (2, l1)] [(1, 0), (1, 0), (2, l1)] (H) (G) (wZ L xs) (M := tbM72) rfl rfl trivial ?_
    obtain ⟨oz, h⟩ := h
    refine e3_call (o := 1) (k := 64) (M2 := tbM64) (f1 := 0) (w1 := 0) (as := [(2, l1), (1, 0), (1, 0)]) (rest := []) (M := tbM72) rfl rfl rfl oz (Nat.le_of_ble_eq_true rfl) (Nat.le_of_ble_eq_true rfl) (Nat.le_of_ble_eq_true rfl) ?_
    refine e3_mono (sA_want L xs _ _ _ _ _ _ h) (fun r H7 G8 h => ?_)
    obtain ⟨rfl, h⟩ := h
    change e3_Ev _ _ _ _ 63 [(2, 14), (2, l1)] [] H7 G8 _
    refine e3_K [0] 100 [(2, 14), (2, l1)] [] (H7) (G8) (wZ L xs) (M := tbM72) rfl rfl trivial ?_
    refine e3_fgt [true, false] ?_
    exact sR_readConstant_100 L xs Q _ _ h
  replace h := h.2
  by_cases hc3 : ((H 3 7) : Int) = 280
  · replace h := h.1 hc3
    refine e3_sw (M := tbM72) rfl rfl hc3 rfl ?_
    refine e3_K [0, 2, 2] 94 [(2, 14), (2, l1)] [(1, ((-1 : Int64).toInt)), (1, ((-1 : Int64).toInt)), (2, l1)] (H) (G) (wZ L xs) (M := tbM72) rfl rfl ⟨trivial, trivial, trivial⟩ ?_
    obtain ⟨oz, h⟩ := h
    refine e3_call (o := 1) (k := 64) (M2 := tbM64) (f1 := 0) (w1 := 0) (as := [(2, l1), (1, ((-1 : Int64).toInt)), (1, ((-1 : Int64).toInt))]) (rest := []) (M := tbM72) rfl rfl rfl oz (Nat.le_of_ble_eq_true rfl) (Nat.le_of_ble_eq_true rfl) (Nat.le_of_ble_eq_true rfl) ?_
    refine e3_mono (sA_want L xs _ _ _ _ _ _ h) (fun r H10 G11 h => ?_)
    obtain ⟨rfl, h⟩ := h
    change e3_Ev _ _ _ _ 97 [(2, 14), (2, l1)] [] H10 G11 _
    refine e3_K [0] 100 [(2, 14), (2, l1)] [] (H10) (G11) (wZ L xs) (M := tbM72) rfl rfl trivial ?_
    refine e3_fgt [true, false] ?_
    exact sR_readConstant_100 L xs Q _ _ h
  replace h := h.2
  replace h := h ⟨hc0, hc1, hc2, hc3⟩
  refine e3_sw (M := tbM72) rfl rfl rfl ((e3_swdl rfl (fun q hq => (by
      have hq : q ∈ ([(261, 59), (278, 41), (279, 50), (280, 80)] : List (Int × Int)) := hq
      simp only [List.mem_cons, List.not_mem_nil, or_false] at hq
      rcases hq with rfl | rfl | rfl | rfl
      all_goals (intro hz; simp only at hz; omega)))).trans rfl) ?_
  refine e3_fgt [true, false] ?_
  exact sR_readConstant_100 L xs Q _ _ h
/-- LetterPost$Reader.readPattern(IIIZ)LLetterPost$Pattern; -/
def wR_readPattern_240 (R : Int → Int → Int → Int → e3_H → e3_G → (Int → e3_H → e3_G → Prop) → Prop) (Q : Int → e3_H → e3_G → Prop) (s0 : Int) (H : e3_H) (G : e3_G) : Prop :=
  Q s0 H G
def wR_readPattern_229 (R : Int → Int → Int → Int → e3_H → e3_G → (Int → e3_H → e3_G → Prop) → Prop) (Q : Int → e3_H → e3_G → Prop) (l6 : Int) (l7 : Int) (H : e3_H) (G : e3_G) : Prop :=
  (((l7 : Int) = 0 → (wR_readPattern_240 R Q (-1) H G)) ∧ (¬ ((l7 : Int) = 0) → (wR_readPattern_240 R Q l6 H G)))
def wR_readPattern_185 (R : Int → Int → Int → Int → e3_H → e3_G → (Int → e3_H → e3_G → Prop) → Prop) (Q : Int → e3_H → e3_G → Prop) (l1 : Int) (l6 : Int) (l7 : Int) (H : e3_H) (G : e3_G) : Prop :=
  (((l7 : Int) = 0 → (wR_readPattern_229 R Q l6 l7 H G)) ∧ (¬ ((l7 : Int) = 0) → ((((H 3 7) : Int) = 274 → (wT_step (fun H1 G2 => (e3_ob G2 10 l6) ∧ ∀ H4 : e3_H, H4 = e3_up H1 l6 6 (H1 3 9) → (wR_readName (fun x8 H6 G7 => (wR_readPattern_229 R Q l6 x8 H6 G7)) l1 H4 G2)) H G)) ∧ (¬ (((H 3 7) : Int) = 274) → (wR_readPattern_229 R Q l6 l7 H G)))))
def wR_readPattern_39 (R : Int → Int → Int → Int → e3_H → e3_G → (Int → e3_H → e3_G → Prop) → Prop) (Q : Int → e3_H → e3_G → Prop) (l1 : Int) (l2 : Int) (l3 : Int) (l5 : Int) (H : e3_H) (G : e3_G) : Prop :=
  (((l5 : Int) = 0 → ∀ (H1 : e3_H) (G2 : e3_G), H1 = e3_nw H (G.length : Int) (e3_dz (wFc.getD 10 [])) → G2 = G ++ [(110, 10)] → ((0 : Int) ≤ (G.length : Int)) ∧ (wA_init (fun H3 G4 => ((((H3 3 7) : Int) = 40 → (wR_readAlternatives R (fun x8 H6 G7 => (wR_readPattern_185 R Q l1 (G.length : Int) x8 H6 G7)) (G.length : Int) l3 H3 G4)) ∧ (((H3 3 7) : Int) = 45 → (wR_readRange (fun x11 H9 G10 => (wR_readPattern_185 R Q l1 (G.length : Int) x11 H9 G10)) (G.length : Int) H3 G4)) ∧ (((H3 3 7) : Int) = 258 → (e3_ob G4 10 (G.length : Int)) ∧ ∀ H12 : e3_H, H12 = e3_up H3 (G.length : Int) 5 (H3 3 9) → (wR_readName (fun x16 H14 G15 => (wR_readPattern_185 R Q l1 (G.length : Int) x16 H14 G15)) l1 H12 G4)) ∧ (((H3 3 7) : Int) = 259 → (wR_readKindPattern R (fun x19 H17 G18 => (wR_readPattern_185 R Q l1 (G.length : Int) x19 H17 G18)) (G.length : Int) l3 H3 G4)) ∧ (((H3 3 7) : Int) = 260 → (wR_readRange (fun x22 H20 G21 => (wR_readPattern_185 R Q l1 (G.length : Int) x22 H20 G21)) (G.length : Int) H3 G4)) ∧ (¬ ((H3 3 7) : Int) = 40 ∧ ¬ ((H3 3 7) : Int) = 45 ∧ ¬ ((H3 3 7) : Int) = 258 ∧ ¬ ((H3 3 7) : Int) = 259 ∧ ¬ ((H3 3 7) : Int) = 260 → (wR_readConstant (fun x25 H23 G24 => (wR_readPattern_185 R Q l1 (G.length : Int) x25 H23 G24)) (G.length : Int) H3 G4)))) (G.length : Int) l1 l2 H1 G2)) ∧ (¬ ((l5 : Int) = 0) → (wR_failHere (fun x28 H26 G27 => Q (-1) H26 G27) l5 H G)))
def wR_readPattern_37 (R : Int → Int → Int → Int → e3_H → e3_G → (Int → e3_H → e3_G → Prop) → Prop) (Q : Int → e3_H → e3_G → Prop) (l1 : Int) (l2 : Int) (l3 : Int) (s0 : Int) (H : e3_H) (G : e3_G) : Prop :=
  (wR_readPattern_39 R Q l1 l2 l3 s0 H G)
def wR_readPattern_23 (R : Int → Int → Int → Int → e3_H → e3_G → (Int → e3_H → e3_G → Prop) → Prop) (Q : Int → e3_H → e3_G → Prop) (l1 : Int) (l2 : Int) (l3 : Int) (H : e3_H) (G : e3_G) : Prop :=
  (wR_isTurnedRange (fun x3 H1 G2 => (((x3 : Int) = 0 → (wR_readPattern_37 R Q l1 l2 l3 9 H1 G2)) ∧ (¬ ((x3 : Int) = 0) → (wR_readPattern_37 R Q l1 l2 l3 7 H1 G2)))) H G)
def wR_readPattern : Nat → Int → Int → Int → Int → e3_H → e3_G → (Int → e3_H → e3_G → Prop) → Prop
  | 0, _, _, _, _, _, _, _ => False
  | n + 1, l1, l2, l3, l4, H, G, Q => (wR_firstFault (fun x3 H1 G2 => (((x3 : Int) = 0 → (((l4 : Int) = 0 → (((l3 : Int) < 6 → (wR_readPattern_39 (wR_readPattern n) Q l1 l2 l3 x3 H1 G2)) ∧ (¬ ((l3 : Int) < 6) → (wR_readPattern_23 (wR_readPattern n) Q l1 l2 l3 H1 G2)))) ∧ (¬ ((l4 : Int) = 0) → (wR_readPattern_23 (wR_readPattern n) Q l1 l2 l3 H1 G2)))) ∧ (¬ ((x3 : Int) = 0) → (wR_readPattern_39 (wR_readPattern n) Q l1 l2 l3 x3 H1 G2)))) l1 H G)
set_option maxRecDepth 100000 in
set_option maxHeartbeats 4000000 in
theorem sR_readPattern_240 (L : Nat) (xs : Nat → Int32) (n : Nat) (R : Int → Int → Int → Int → e3_H → e3_G → (Int → e3_H → e3_G → Prop) → Prop) (hR : ∀ (l1 : Int) (l2 : Int) (l3 : Int) (l4 : Int) (H : e3_H) (G : e3_G) (Q : Int → e3_H → e3_G → Prop), R l1 l2 l3 l4 H G Q → e3_Ev (wB L xs) (4 + 3 * n) (144 + 77 * n) 49 0 [(2, 14), (0, l1), (0, l2), (0, l3), (0, l4), (3, 0), (3, 0), (3, 0)] [] H G (e3_q2 Q)) (Q : Int → e3_H → e3_G → Prop) (s0 : Int) (H : e3_H) (G : e3_G) (h : wR_readPattern_240 R Q s0 H G) : e3_Ev (wB L xs) (4 + 3 * (n + 1)) (144 + 77 * (n + 1)) 49 240 [(3, 0), (3, 0), (3, 0), (3, 0), (3, 0), (3, 0), (3, 0), (3, 0)] [(2, s0)] H G (e3_q2 Q) := by
  unfold wR_readPattern_240 at h
  exact e3_reta (M := tbM49) rfl rfl rfl ⟨_, rfl, h⟩
set_option maxRecDepth 100000 in
set_option maxHeartbeats 4000000 in
theorem sR_readPattern_229 (L : Nat) (xs : Nat → Int32) (n : Nat) (R : Int → Int → Int → Int → e3_H → e3_G → (Int → e3_H → e3_G → Prop) → Prop) (hR : ∀ (l1 : Int) (l2 : Int) (l3 : Int) (l4 : Int) (H : e3_H) (G : e3_G) (Q : Int → e3_H → e3_G → Prop), R l1 l2 l3 l4 H G Q → e3_Ev (wB L xs) (4 + 3 * n) (144 + 77 * n) 49 0 [(2, 14), (0, l1), (0, l2), (0, l3), (0, l4), (3, 0), (3, 0), (3, 0)] [] H G (e3_q2 Q)) (Q : Int → e3_H → e3_G → Prop) (l6 : Int) (l7 : Int) (H : e3_H) (G : e3_G) (h : wR_readPattern_229 R Q l6 l7 H G) : e3_Ev (wB L xs) (4 + 3 * (n + 1)) (144 + 77 * (n + 1)) 49 229 [(3, 0), (3, 0), (3, 0), (3, 0), (3, 0), (3, 0), (2, l6), (0, l7)] [] H G (e3_q2 Q) := by
  unfold wR_readPattern_229 at h
  refine e3_K [0] 231 [(3, 0), (3, 0), (3, 0), (3, 0), (3, 0), (3, 0), (2, l6), (0, l7)] [(0, l7)] (H) (G) (wZ L xs) (M := tbM49) rfl rfl trivial ?_
  refine e3_br (M := tbM49) rfl rfl rfl Iff.rfl (fun hc => ?_) (fun hc => ?_)
  · replace h := h.1 hc
    refine e3_K [0] 240 [(3, 0), (3, 0), (3, 0), (3, 0), (3, 0), (3, 0), (2, l6), (0, l7)] [(2, (-1))] (H) (G) (wZ L xs) (M := tbM49) rfl rfl trivial ?_
    refine e3_fgt [false, false, false, false, false, false, false, false] ?_
    exact sR_readPattern_240 L xs n R hR Q _ _ _ h
  · replace h := h.2 hc
    refine e3_K [0, 0] 240 [(3, 0), (3, 0), (3, 0), (3, 0), (3, 0), (3, 0), (2, l6), (0, l7)] [(2, l6)] (H) (G) (wZ L xs) (M := tbM49) rfl rfl trivial ?_
    refine e3_fgt [false, false, false, false, false, false, false, false] ?_
    exact sR_readPattern_240 L xs n R hR Q _ _ _ h
set_option maxRecDepth 100000 in
set_option maxHeartbeats 4000000 in
theorem sR_readPattern_185 (L : Nat) (xs : Nat → Int32) (n : Nat) (R : Int → Int → Int → Int → e3_H → e3_G → (Int → e3_H → e3_G → Prop) → Prop) (hR : ∀ (l1 : Int) (l2 : Int) (l3 : Int) (l4 : Int) (H : e3_H) (G : e3_G) (Q : Int → e3_H → e3_G → Prop), R l1 l2 l3 l4 H G Q → e3_Ev (wB L xs) (4 + 3 * n) (144 + 77 * n) 49 0 [(2, 14), (0, l1), (0, l2), (0, l3), (0, l4), (3, 0), (3, 0), (3, 0)] [] H G (e3_q2 Q)) (Q : Int → e3_H → e3_G → Prop) (l1 : Int) (l6 : Int) (l7 : Int) (H : e3_H) (G : e3_G) (h : wR_readPattern_185 R Q l1 l6 l7 H G) : e3_Ev (wB L xs) (4 + 3 * (n + 1)) (144 + 77 * (n + 1)) 49 185 [(2, 14), (0, l1), (3, 0), (3, 0), (3, 0), (3, 0), (2, l6), (0, l7)] [] H G (e3_q2 Q) := by
  unfold wR_readPattern_185 at h
  refine e3_K [0] 187 [(2, 14), (0, l1), (3, 0), (3, 0), (3, 0), (3, 0), (2, l6), (0, l7)] [(0, l7)] (H) (G) (wZ L xs) (M := tbM49) rfl rfl trivial ?_
  refine e3_br (M := tbM49) rfl rfl rfl Iff.rfl (fun hc => ?_) (fun hc => ?_)
  · replace h := h.1 hc
    refine e3_fgt [false, false, false, false, false, false, true, true] ?_
    exact sR_readPattern_229 L xs n R hR Q _ _ _ _ h
  · replace h := h.2 hc
    refine e3_K [0, 4, 2, 0] 200 [(2, 14), (0, l1), (3, 0), (3, 0), (3, 0), (3, 0), (2, l6), (0, l7)] [(0, 274), (0, (H 3 7))] (H) (G) (wZ L xs) (M := tbM49) rfl rfl ⟨trivial, trivial, trivial⟩ ?_
    refine e3_br (M := tbM49) rfl rfl rfl Iff.rfl (fun hc => ?_) (fun hc => ?_)
    · replace h := h.1 hc
      refine e3_K [0, 4] 207 [(2, 14), (0, l1), (3, 0), (3, 0), (3, 0), (3, 0), (2, l6), (0, l7)] [(2, 3)] (H) (G) (wZ L xs) (M := tbM49) rfl rfl ⟨trivial, trivial⟩ ?_
      refine e3_call (o := 0) (k := 25) (M2 := tbM25) (f1 := 0) (w1 := 0) (as := [(2, 3)]) (rest := []) (M := tbM49) rfl rfl rfl trivial (by omega) (by show 0 + (19 + 1) ≤ (144 + 77 * (n + 1)); omega) (Nat.le_of_ble_eq_true rfl) ?_
      refine e3_mono (sT_step L xs _ _ _ h) (fun r H1 G2 h => ?_)
      obtain ⟨rfl, h⟩ := h
      change e3_Ev _ _ _ _ 210 [(2, 14), (0, l1), (3, 0), (3, 0), (3, 0), (3, 0), (2, l6), (0, l7)] [] H1 G2 _
      obtain ⟨o5, h⟩ := h
      refine e3_K [0, 0, 4, 2, 3] 222 [(2, 14), (0, l1), (3, 0), (3, 0), (3, 0), (3, 0), (2, l6), (0, l7)] [] (e3_up H1 l6 6 (H1 3 9)) (G2) (wZ L xs) (M := tbM49) rfl rfl ⟨trivial, trivial, ⟨o5, trivial⟩, trivial⟩ ?_
      generalize hH4 : (e3_up H1 l6 6 (H1 3 9)) = H4
      replace h := h H4 hH4.symm
      refine e3_K [0, 0] 224 [(2, 14), (0, l1), (3, 0), (3, 0), (3, 0), (3, 0), (2, l6), (0, l7)] [(0, l1), (2, 14)] (H4) (G2) (wZ L xs) (M := tbM49) rfl rfl trivial ?_
      refine e3_call (o := 0) (k := 60) (M2 := tbM60) (f1 := 2) (w1 := 47) (as := [(2, 14), (0, l1)]) (rest := []) (M := tbM49) rfl rfl rfl trivial (by omega) (by show 47 + (19 + 3) ≤ (144 + 77 * (n + 1)); omega) (Nat.le_of_ble_eq_true rfl) ?_
      refine e3_mono (sR_readName L xs _ _ _ _ h) (fun r H6 G7 h => ?_)
      obtain ⟨x8, rfl, h⟩ := h
      change e3_Ev _ _ _ _ 227 [(2, 14), (0, l1), (3, 0), (3, 0), (3, 0), (3, 0), (2, l6), (0, l7)] [(0, x8)] H6 G7 _
      refine e3_K [0] 229 [(2, 14), (0, l1), (3, 0), (3, 0), (3, 0), (3, 0), (2, l6), (0, x8)] [] (H6) (G7) (wZ L xs) (M := tbM49) rfl rfl trivial ?_
      refine e3_fgt [false, false, false, false, false, false, true, true] ?_
      exact sR_readPattern_229 L xs n R hR Q _ _ _ _ h
    · replace h := h.2 hc
      refine e3_fgt [false, false, false, false, false, false, true, true] ?_
      exact sR_readPattern_229 L xs n R hR Q _ _ _ _ h
set_option maxRecDepth 100000 in
set_option maxHeartbeats 4000000 in
theorem sR_readPattern_39 (L : Nat) (xs : Nat → Int32) (n : Nat) (R : Int → Int → Int → Int → e3_H → e3_G → (Int → e3_H → e3_G → Prop) → Prop) (hR : ∀ (l1 : Int) (l2 : Int) (l3 : Int) (l4 : Int) (H : e3_H) (G : e3_G) (Q : Int → e3_H → e3_G → Prop), R l1 l2 l3 l4 H G Q → e3_Ev (wB L xs) (4 + 3 * n) (144 + 77 * n) 49 0 [(2, 14), (0, l1), (0, l2), (0, l3), (0, l4), (3, 0), (3, 0), (3, 0)] [] H G (e3_q2 Q)) (Q : Int → e3_H → e3_G → Prop) (l1 : Int) (l2 : Int) (l3 : Int) (l5 : Int) (H : e3_H) (G : e3_G) (h : wR_readPattern_39 R Q l1 l2 l3 l5 H G) : e3_Ev (wB L xs) (4 + 3 * (n + 1)) (144 + 77 * (n + 1)) 49 39 [(2, 14), (0, l1), (0, l2), (0, l3), (3, 0), (0, l5), (3, 0), (3, 0)] [] H G (e3_q2 Q) := by
  unfold wR_readPattern_39 at h
  refine e3_K [0] 41 [(2, 14), (0, l1), (0, l2), (0, l3), (3, 0), (0, l5), (3, 0), (3, 0)] [(0, l5)] (H) (G) (wZ L xs) (M := tbM49) rfl rfl trivial ?_
  refine e3_br (M := tbM49) rfl rfl rfl Iff.rfl (fun hc => ?_) (fun hc => ?_)
  · replace h := h.1 hc
    refine e3_K [2] 56 [(2, 14), (0, l1), (0, l2), (0, l3), (3, 0), (0, l5), (3, 0), (3, 0)] [(2, (G.length : Int))] (e3_nw H (G.length : Int) (e3_dz (wFc.getD 10 []))) (G ++ [(110, 10)]) (wZ L xs) (M := tbM49) rfl rfl ⟨trivial, trivial⟩ ?_
    generalize hH1 : (e3_nw H (G.length : Int) (e3_dz (wFc.getD 10 []))) = H1
    generalize hG2 : (G ++ [(110, 10)]) = G2
    replace h := h H1 G2 hH1.symm hG2.symm
    refine e3_K [0, 0, 0] 59 [(2, 14), (0, l1), (0, l2), (0, l3), (3, 0), (0, l5), (3, 0), (3, 0)] [(0, l2), (0, l1), (2, (G.length : Int)), (2, (G.length : Int))] (H1) (G2) (wZ L xs) (M := tbM49) rfl rfl trivial ?_
    obtain ⟨oz, h⟩ := h
    refine e3_call (o := 0) (k := 59) (M2 := tbM59) (f1 := 1) (w1 := 40) (as := [(2, (G.length : Int)), (0, l1), (0, l2)]) (rest := [(2, (G.length : Int))]) (M := tbM49) rfl rfl rfl oz (by omega) (by show 40 + (19 + 3) ≤ (144 + 77 * (n + 1)); omega) (Nat.le_of_ble_eq_true rfl) ?_
    refine e3_mono (sA_init L xs _ _ _ _ _ _ h) (fun r H3 G4 h => ?_)
    obtain ⟨rfl, h⟩ := h
    change e3_Ev _ _ _ _ 62 [(2, 14), (0, l1), (0, l2), (0, l3), (3, 0), (0, l5), (3, 0), (3, 0)] [(2, (G.length : Int))] H3 G4 _
    refine e3_K [0, 0, 4, 2] 71 [(2, 14), (0, l1), (0, l2), (0, l3), (3, 0), (0, l5), (2, (G.length : Int)), (3, 0)] [(0, (H3 3 7))] (H3) (G4) (wZ L xs) (M := tbM49) rfl rfl ⟨trivial, trivial, trivial⟩ ?_
    by_cases hc0 : ((H3 3 7) : Int) = 40
    · replace h := h.1 hc0
      refine e3_sw (M := tbM49) rfl rfl hc0 rfl ?_
      refine e3_K [0, 0, 0] 169 [(2, 14), (0, l1), (0, l2), (0, l3), (3, 0), (0, l5), (2, (G.length : Int)), (3, 0)] [(0, l3), (2, (G.length : Int)), (2, 14)] (H3) (G4) (wZ L xs) (M := tbM49) rfl rfl trivial ?_
      refine e3_call (o := 0) (k := 71) (M2 := tbM71) (f1 := (5 + 3 * n)) (w1 := (171 + 77 * n)) (as := [(2, 14), (2, (G.length : Int)), (0, l3)]) (rest := []) (M := tbM49) rfl rfl rfl trivial (by omega) (by show (171 + 77 * n) + (19 + 12) ≤ (144 + 77 * (n + 1)); omega) (Nat.le_of_ble_eq_true rfl) ?_
      refine e3_mono (sR_readAlternatives L xs n R hR _ _ _ _ _ h) (fun r H6 G7 h => ?_)
      obtain ⟨x8, rfl, h⟩ := h
      change e3_Ev _ _ _ _ 172 [(2, 14), (0, l1), (0, l2), (0, l3), (3, 0), (0, l5), (2, (G.length : Int)), (3, 0)] [(0, x8)] H6 G7 _
      refine e3_K [0, 0] 185 [(2, 14), (0, l1), (0, l2), (0, l3), (3, 0), (0, l5), (2, (G.length : Int)), (0, x8)] [] (H6) (G7) (wZ L xs) (M := tbM49) rfl rfl trivial ?_
      refine e3_fgt [true, true, false, false, false, false, true, true] ?_
      exact sR_readPattern_185 L xs n R hR Q _ _ _ _ _ h
    replace h := h.2
    by_cases hc1 : ((H3 3 7) : Int) = 45
    · replace h := h.1 hc1
      refine e3_sw (M := tbM49) rfl rfl hc1 rfl ?_
      refine e3_K [0, 0] 145 [(2, 14), (0, l1), (0, l2), (0, l3), (3, 0), (0, l5), (2, (G.length : Int)), (3, 0)] [(2, (G.length : Int)), (2, 14)] (H3) (G4) (wZ L xs) (M := tbM49) rfl rfl trivial ?_
      refine e3_call (o := 0) (k := 62) (M2 := tbM62) (f1 := 2) (w1 := 43) (as := [(2, 14), (2, (G.length : Int))]) (rest := []) (M := tbM49) rfl rfl rfl trivial (by omega) (by show 43 + (19 + 5) ≤ (144 + 77 * (n + 1)); omega) (Nat.le_of_ble_eq_true rfl) ?_
      refine e3_mono (sR_readRange L xs _ _ _ _ h) (fun r H9 G10 h => ?_)
      obtain ⟨x11, rfl, h⟩ := h
      change e3_Ev _ _ _ _ 148 [(2, 14), (0, l1), (0, l2), (0, l3), (3, 0), (0, l5), (2, (G.length : Int)), (3, 0)] [(0, x11)] H9 G10 _
      refine e3_K [0, 0] 185 [(2, 14), (0, l1), (0, l2), (0, l3), (3, 0), (0, l5), (2, (G.length : Int)), (0, x11)] [] (H9) (G10) (wZ L xs) (M := tbM49) rfl rfl trivial ?_
      refine e3_fgt [true, true, false, false, false, false, true, true] ?_
      exact sR_readPattern_185 L xs n R hR Q _ _ _ _ _ h
    replace h := h.2
    by_cases hc2 : ((H3 3 7) : Int) = 258
    · replace h := h.1 hc2
      refine e3_sw (M := tbM49) rfl rfl hc2 rfl ?_
      obtain ⟨o13, h⟩ := h
      refine e3_K [0, 0, 4, 2, 3] 132 [(2, 14), (0, l1), (0, l2), (0, l3), (3, 0), (0, l5), (2, (G.length : Int)), (3, 0)] [] (e3_up H3 (G.length : Int) 5 (H3 3 9)) (G4) (wZ L xs) (M := tbM49) rfl rfl ⟨trivial, trivial, ⟨o13, trivial⟩, trivial⟩ ?_
      generalize hH12 : (e3_up H3 (G.length : Int) 5 (H3 3 9)) = H12
      replace h := h H12 hH12.symm
      refine e3_K [0, 0] 134 [(2, 14), (0, l1), (0, l2), (0, l3), (3, 0), (0, l5), (2, (G.length : Int)), (3, 0)] [(0, l1), (2, 14)] (H12) (G4) (wZ L xs) (M := tbM49) rfl rfl trivial ?_
      refine e3_call (o := 0) (k := 60) (M2 := tbM60) (f1 := 2) (w1 := 47) (as := [(2, 14), (0, l1)]) (rest := []) (M := tbM49) rfl rfl rfl trivial (by omega) (by show 47 + (19 + 3) ≤ (144 + 77 * (n + 1)); omega) (Nat.le_of_ble_eq_true rfl) ?_
      refine e3_mono (sR_readName L xs _ _ _ _ h) (fun r H14 G15 h => ?_)
      obtain ⟨x16, rfl, h⟩ := h
      change e3_Ev _ _ _ _ 137 [(2, 14), (0, l1), (0, l2), (0, l3), (3, 0), (0, l5), (2, (G.length : Int)), (3, 0)] [(0, x16)] H14 G15 _
      refine e3_K [0, 0] 185 [(2, 14), (0, l1), (0, l2), (0, l3), (3, 0), (0, l5), (2, (G.length : Int)), (0, x16)] [] (H14) (G15) (wZ L xs) (M := tbM49) rfl rfl trivial ?_
      refine e3_fgt [true, true, false, false, false, false, true, true] ?_
      exact sR_readPattern_185 L xs n R hR Q _ _ _ _ _ h
    replace h := h.2
    by_cases hc3 : ((H3 3 7) : Int) = 259
    · replace h := h.1 hc3
      refine e3_sw (M := tbM49) rfl rfl hc3 rfl ?_
      refine e3_K [0, 0, 0] 157 [(2, 14), (0, l1), (0, l2), (0, l3), (3, 0), (0, l5), (2, (G.length : Int)), (3, 0)] [(0, l3), (2, (G.length : Int)), (2, 14)] (H3) (G4) (wZ L xs) (M := tbM49) rfl rfl trivial ?_
      refine e3_call (o := 0) (k := 66) (M2 := tbM66) (f1 := (5 + 3 * n)) (w1 := (171 + 77 * n)) (as := [(2, 14), (2, (G.length : Int)), (0, l3)]) (rest := []) (M := tbM49) rfl rfl rfl trivial (by omega) (by show (171 + 77 * n) + (19 + 8) ≤ (144 + 77 * (n + 1)); omega) (Nat.le_of_ble_eq_true rfl) ?_
      refine e3_mono (sR_readKindPattern L xs n R hR _ _ _ _ _ h) (fun r H17 G18 h => ?_)
      obtain ⟨x19, rfl, h⟩ := h
      change e3_Ev _ _ _ _ 160 [(2, 14), (0, l1), (0, l2), (0, l3), (3, 0), (0, l5), (2, (G.length : Int)), (3, 0)] [(0, x19)] H17 G18 _
      refine e3_K [0, 0] 185 [(2, 14), (0, l1), (0, l2), (0, l3), (3, 0), (0, l5), (2, (G.length : Int)), (0, x19)] [] (H17) (G18) (wZ L xs) (M := tbM49) rfl rfl trivial ?_
      refine e3_fgt [true, true, false, false, false, false, true, true] ?_
      exact sR_readPattern_185 L xs n R hR Q _ _ _ _ _ h
    replace h := h.2
    by_cases hc4 : ((H3 3 7) : Int) = 260
    · replace h := h.1 hc4
      refine e3_sw (M := tbM49) rfl rfl hc4 rfl ?_
      refine e3_K [0, 0] 145 [(2, 14), (0, l1), (0, l2), (0, l3), (3, 0), (0, l5), (2, (G.length : Int)), (3, 0)] [(2, (G.length : Int)), (2, 14)] (H3) (G4) (wZ L xs) (M := tbM49) rfl rfl trivial ?_
      refine e3_call (o := 0) (k := 62) (M2 := tbM62) (f1 := 2) (w1 := 43) (as := [(2, 14), (2, (G.length : Int))]) (rest := []) (M := tbM49) rfl rfl rfl trivial (by omega) (by show 43 + (19 + 5) ≤ (144 + 77 * (n + 1)); omega) (Nat.le_of_ble_eq_true rfl) ?_
      refine e3_mono (sR_readRange L xs _ _ _ _ h) (fun r H20 G21 h => ?_)
      obtain ⟨x22, rfl, h⟩ := h
      change e3_Ev _ _ _ _ 148 [(2, 14), (0, l1), (0, l2), (0, l3), (3, 0), (0, l5), (2, (G.length : Int)), (3, 0)] [(0, x22)] H20 G21 _
      refine e3_K [0, 0] 185 [(2, 14), (0, l1), (0, l2), (0, l3), (3, 0), (0, l5), (2, (G.length : Int)), (0, x22)] [] (H20) (G21) (wZ L xs) (M := tbM49) rfl rfl trivial ?_
      refine e3_fgt [true, true, false, false, false, false, true, true] ?_
      exact sR_readPattern_185 L xs n R hR Q _ _ _ _ _ h
    replace h := h.2
    replace h := h ⟨hc0, hc1, hc2, hc3, hc4⟩
    refine e3_sw (M := tbM49) rfl rfl rfl ((e3_swdl rfl (fun q hq => (by
      have hq : q ∈ ([(40, 94), (45, 71), (258, 49), (259, 82), (260, 71)] : List (Int × Int)) := hq
      simp only [List.mem_cons, List.not_mem_nil, or_false] at hq
      rcases hq with rfl | rfl | rfl | rfl | rfl
      all_goals (intro hz; simp only at hz; omega)))).trans rfl) ?_
    refine e3_K [0, 0] 180 [(2, 14), (0, l1), (0, l2), (0, l3), (3, 0), (0, l5), (2, (G.length : Int)), (3, 0)] [(2, (G.length : Int)), (2, 14)] (H3) (G4) (wZ L xs) (M := tbM49) rfl rfl trivial ?_
    refine e3_call (o := 0) (k := 72) (M2 := tbM72) (f1 := 1) (w1 := 24) (as := [(2, 14), (2, (G.length : Int))]) (rest := []) (M := tbM49) rfl rfl rfl trivial (by omega) (by show 24 + (19 + 2) ≤ (144 + 77 * (n + 1)); omega) (Nat.le_of_ble_eq_true rfl) ?_
    refine e3_mono (sR_readConstant L xs _ _ _ _ h) (fun r H23 G24 h => ?_)
    obtain ⟨x25, rfl, h⟩ := h
    change e3_Ev _ _ _ _ 183 [(2, 14), (0, l1), (0, l2), (0, l3), (3, 0), (0, l5), (2, (G.length : Int)), (3, 0)] [(0, x25)] H23 G24 _
    refine e3_K [0] 185 [(2, 14), (0, l1), (0, l2), (0, l3), (3, 0), (0, l5), (2, (G.length : Int)), (0, x25)] [] (H23) (G24) (wZ L xs) (M := tbM49) rfl rfl trivial ?_
    refine e3_fgt [true, true, false, false, false, false, true, true] ?_
    exact sR_readPattern_185 L xs n R hR Q _ _ _ _ _ h
  · replace h := h.2 hc
    refine e3_K [0, 0] 47 [(2, 14), (0, l1), (0, l2), (0, l3), (3, 0), (0, l5), (3, 0), (3, 0)] [(0, l5), (2, 14)] (H) (G) (wZ L xs) (M := tbM49) rfl rfl trivial ?_
    refine e3_call (o := 0) (k := 27) (M2 := tbM27) (f1 := 0) (w1 := 0) (as := [(2, 14), (0, l5)]) (rest := []) (M := tbM49) rfl rfl rfl trivial (by omega) (by show 0 + (19 + 2) ≤ (144 + 77 * (n + 1)); omega) (Nat.le_of_ble_eq_true rfl) ?_
    refine e3_mono (sR_failHere L xs _ _ _ _ h) (fun r H26 G27 h => ?_)
    obtain ⟨x28, rfl, h⟩ := h
    change e3_Ev _ _ _ _ 50 [(2, 14), (0, l1), (0, l2), (0, l3), (3, 0), (0, l5), (3, 0), (3, 0)] [(0, x28)] H26 G27 _
    refine e3_K [0, 0] 52 [(2, 14), (0, l1), (0, l2), (0, l3), (3, 0), (0, l5), (3, 0), (3, 0)] [(2, (-1))] (H26) (G27) (wZ L xs) (M := tbM49) rfl rfl trivial ?_
    exact e3_reta (M := tbM49) rfl rfl rfl ⟨_, rfl, h⟩
set_option maxRecDepth 100000 in
set_option maxHeartbeats 4000000 in
theorem sR_readPattern_37 (L : Nat) (xs : Nat → Int32) (n : Nat) (R : Int → Int → Int → Int → e3_H → e3_G → (Int → e3_H → e3_G → Prop) → Prop) (hR : ∀ (l1 : Int) (l2 : Int) (l3 : Int) (l4 : Int) (H : e3_H) (G : e3_G) (Q : Int → e3_H → e3_G → Prop), R l1 l2 l3 l4 H G Q → e3_Ev (wB L xs) (4 + 3 * n) (144 + 77 * n) 49 0 [(2, 14), (0, l1), (0, l2), (0, l3), (0, l4), (3, 0), (3, 0), (3, 0)] [] H G (e3_q2 Q)) (Q : Int → e3_H → e3_G → Prop) (l1 : Int) (l2 : Int) (l3 : Int) (s0 : Int) (H : e3_H) (G : e3_G) (h : wR_readPattern_37 R Q l1 l2 l3 s0 H G) : e3_Ev (wB L xs) (4 + 3 * (n + 1)) (144 + 77 * (n + 1)) 49 37 [(2, 14), (0, l1), (0, l2), (0, l3), (3, 0), (3, 0), (3, 0), (3, 0)] [(0, s0)] H G (e3_q2 Q) := by
  unfold wR_readPattern_37 at h
  refine e3_K [0] 39 [(2, 14), (0, l1), (0, l2), (0, l3), (3, 0), (0, s0), (3, 0), (3, 0)] [] (H) (G) (wZ L xs) (M := tbM49) rfl rfl trivial ?_
  exact sR_readPattern_39 L xs n R hR Q _ _ _ _ _ _ h
set_option maxRecDepth 100000 in
set_option maxHeartbeats 4000000 in
theorem sR_readPattern_23 (L : Nat) (xs : Nat → Int32) (n : Nat) (R : Int → Int → Int → Int → e3_H → e3_G → (Int → e3_H → e3_G → Prop) → Prop) (hR : ∀ (l1 : Int) (l2 : Int) (l3 : Int) (l4 : Int) (H : e3_H) (G : e3_G) (Q : Int → e3_H → e3_G → Prop), R l1 l2 l3 l4 H G Q → e3_Ev (wB L xs) (4 + 3 * n) (144 + 77 * n) 49 0 [(2, 14), (0, l1), (0, l2), (0, l3), (0, l4), (3, 0), (3, 0), (3, 0)] [] H G (e3_q2 Q)) (Q : Int → e3_H → e3_G → Prop) (l1 : Int) (l2 : Int) (l3 : Int) (H : e3_H) (G : e3_G) (h : wR_readPattern_23 R Q l1 l2 l3 H G) : e3_Ev (wB L xs) (4 + 3 * (n + 1)) (144 + 77 * (n + 1)) 49 23 [(2, 14), (0, l1), (0, l2), (0, l3), (3, 0), (3, 0), (3, 0), (3, 0)] [] H G (e3_q2 Q) := by
  unfold wR_readPattern_23 at h
  refine e3_K [0] 24 [(2, 14), (0, l1), (0, l2), (0, l3), (3, 0), (3, 0), (3, 0), (3, 0)] [(2, 14)] (H) (G) (wZ L xs) (M := tbM49) rfl rfl trivial ?_
  refine e3_call (o := 0) (k := 56) (M2 := tbM56) (f1 := 2) (w1 := 42) (as := [(2, 14)]) (rest := []) (M := tbM49) rfl rfl rfl trivial (by omega) (by show 42 + (19 + 9) ≤ (144 + 77 * (n + 1)); omega) (Nat.le_of_ble_eq_true rfl) ?_
  refine e3_mono (sR_isTurnedRange L xs _ _ _ h) (fun r H1 G2 h => ?_)
  obtain ⟨x3, rfl, h⟩ := h
  change e3_Ev _ _ _ _ 27 [(2, 14), (0, l1), (0, l2), (0, l3), (3, 0), (3, 0), (3, 0), (3, 0)] [(0, x3)] H1 G2 _
  refine e3_br (M := tbM49) rfl rfl rfl Iff.rfl (fun hc => ?_) (fun hc => ?_)
  · replace h := h.1 hc
    refine e3_K [0] 37 [(2, 14), (0, l1), (0, l2), (0, l3), (3, 0), (3, 0), (3, 0), (3, 0)] [(0, 9)] (H1) (G2) (wZ L xs) (M := tbM49) rfl rfl trivial ?_
    exact sR_readPattern_37 L xs n R hR Q _ _ _ _ _ _ h
  · replace h := h.2 hc
    refine e3_K [0, 0] 37 [(2, 14), (0, l1), (0, l2), (0, l3), (3, 0), (3, 0), (3, 0), (3, 0)] [(0, 7)] (H1) (G2) (wZ L xs) (M := tbM49) rfl rfl trivial ?_
    exact sR_readPattern_37 L xs n R hR Q _ _ _ _ _ _ h
set_option maxRecDepth 100000 in
set_option maxHeartbeats 4000000 in
theorem sR_readPattern (L : Nat) (xs : Nat → Int32) : ∀ (n : Nat) (l1 : Int) (l2 : Int) (l3 : Int) (l4 : Int) (H : e3_H) (G : e3_G) (Q : Int → e3_H → e3_G → Prop), wR_readPattern n l1 l2 l3 l4 H G Q → e3_Ev (wB L xs) (4 + 3 * n) (144 + 77 * n) 49 0 [(2, 14), (0, l1), (0, l2), (0, l3), (0, l4), (3, 0), (3, 0), (3, 0)] [] H G (e3_q2 Q) := by
  intro n
  induction n with
  | zero => intro l1 l2 l3 l4 H G Q h; exact h.elim
  | succ n hR =>
    intro l1 l2 l3 l4 H G Q h
    have h : (wR_firstFault (fun x3 H1 G2 => (((x3 : Int) = 0 → (((l4 : Int) = 0 → (((l3 : Int) < 6 → (wR_readPattern_39 (wR_readPattern n) Q l1 l2 l3 x3 H1 G2)) ∧ (¬ ((l3 : Int) < 6) → (wR_readPattern_23 (wR_readPattern n) Q l1 l2 l3 H1 G2)))) ∧ (¬ ((l4 : Int) = 0) → (wR_readPattern_23 (wR_readPattern n) Q l1 l2 l3 H1 G2)))) ∧ (¬ ((x3 : Int) = 0) → (wR_readPattern_39 (wR_readPattern n) Q l1 l2 l3 x3 H1 G2)))) l1 H G) := h
    generalize hRR : wR_readPattern n = R at hR h
    refine e3_K [0, 0] 2 [(2, 14), (0, l1), (0, l2), (0, l3), (0, l4), (3, 0), (3, 0), (3, 0)] [(0, l1), (2, 14)] (H) (G) (wZ L xs) (M := tbM49) rfl rfl trivial ?_
    refine e3_call (o := 0) (k := 50) (M2 := tbM50) (f1 := 2) (w1 := 46) (as := [(2, 14), (0, l1)]) (rest := []) (M := tbM49) rfl rfl rfl trivial (by omega) (by show 46 + (19 + 3) ≤ (144 + 77 * (n + 1)); omega) (Nat.le_of_ble_eq_true rfl) ?_
    refine e3_mono (sR_firstFault L xs _ _ _ _ h) (fun r H1 G2 h => ?_)
    obtain ⟨x3, rfl, h⟩ := h
    change e3_Ev _ _ _ _ 5 [(2, 14), (0, l1), (0, l2), (0, l3), (0, l4), (3, 0), (3, 0), (3, 0)] [(0, x3)] H1 G2 _
    refine e3_K [0, 0] 9 [(2, 14), (0, l1), (0, l2), (0, l3), (0, l4), (0, x3), (3, 0), (3, 0)] [(0, x3)] (H1) (G2) (wZ L xs) (M := tbM49) rfl rfl trivial ?_
    refine e3_br (M := tbM49) rfl rfl rfl Iff.rfl (fun hc => ?_) (fun hc => ?_)
    · replace h := h.1 hc
      refine e3_K [0] 14 [(2, 14), (0, l1), (0, l2), (0, l3), (0, l4), (0, x3), (3, 0), (3, 0)] [(0, l4)] (H1) (G2) (wZ L xs) (M := tbM49) rfl rfl trivial ?_
      refine e3_br (M := tbM49) rfl rfl rfl Iff.rfl (fun hc => ?_) (fun hc => ?_)
      · replace h := h.1 hc
        refine e3_K [0, 0] 20 [(2, 14), (0, l1), (0, l2), (0, l3), (0, l4), (0, x3), (3, 0), (3, 0)] [(0, 6), (0, l3)] (H1) (G2) (wZ L xs) (M := tbM49) rfl rfl trivial ?_
        refine e3_br (M := tbM49) rfl rfl rfl Iff.rfl (fun hc => ?_) (fun hc => ?_)
        · replace h := h.1 hc
          refine e3_fgt [true, true, true, true, false, true, false, false] ?_
          exact sR_readPattern_39 L xs n R hR Q _ _ _ _ _ _ h
        · replace h := h.2 hc
          refine e3_fgt [true, true, true, true, false, false, false, false] ?_
          exact sR_readPattern_23 L xs n R hR Q _ _ _ _ _ h
      · replace h := h.2 hc
        refine e3_fgt [true, true, true, true, false, false, false, false] ?_
        exact sR_readPattern_23 L xs n R hR Q _ _ _ _ _ h
    · replace h := h.2 hc
      refine e3_fgt [true, true, true, true, false, true, false, false] ?_
      exact sR_readPattern_39 L xs n R hR Q _ _ _ _ _ _ h
/-- LetterPost$Reader.readPatterns(Z)Z -/
def wR_readPatterns_139 (Q : Int → e3_H → e3_G → Prop) (s0 : Int) (H : e3_H) (G : e3_G) : Prop :=
  ((s0 : Int) = 0 ∨ s0 = 1) ∧ Q s0 H G
def wR_readPatterns_134 (Q : Int → e3_H → e3_G → Prop)  (H : e3_H) (G : e3_G) : Prop :=
  (wR_readPatterns_139 Q 1 H G)
def wR_readPatterns_87 (Q : Int → e3_H → e3_G → Prop) (k4 : Int → Int → Int → e3_H → e3_G → Prop) (l1 : Int) (l3 : Int) (l4 : Int) (H : e3_H) (G : e3_G) : Prop :=
  (k4 l1 l4 (e3_w32 (l3 + 1)) H G)
def wR_readPatterns_53 (Q : Int → e3_H → e3_G → Prop) (k4 : Int → Int → Int → e3_H → e3_G → Prop) (l1 : Int) (l2 : Int) (l3 : Int) (s0 : Int) (s1 : Int) (s2 : Int) (s3 : Int) (H : e3_H) (G : e3_G) : Prop :=
  (wR_readPattern 9 s3 s2 s1 s0 H G (fun x3 H1 G2 => (((x3 : Int) < 0 → Q 0 H1 G2) ∧ (¬ ((x3 : Int) < 0) → (((l2 : Int) < 0 → (e3_ob G2 9 (H1 14 7)) ∧ ∀ H4 : e3_H, H4 = e3_up H1 (H1 14 7) 2 x3 → (wR_readPatterns_87 Q k4 l1 l3 x3 H4 G2)) ∧ (¬ ((l2 : Int) < 0) → (e3_ob G2 10 l2) ∧ ∀ H6 : e3_H, H6 = e3_up H1 l2 8 x3 → (wR_readPatterns_87 Q k4 l1 l3 x3 H6 G2)))))))
def wR_readPatterns_52 (Q : Int → e3_H → e3_G → Prop) (k4 : Int → Int → Int → e3_H → e3_G → Prop) (l1 : Int) (l2 : Int) (l3 : Int) (s0 : Int) (s1 : Int) (s2 : Int) (H : e3_H) (G : e3_G) : Prop :=
  (wR_readPatterns_53 Q k4 l1 l2 l3 0 s0 s1 s2 H G)
def wR_readPatterns_28 (Q : Int → e3_H → e3_G → Prop) (k4 : Int → Int → Int → e3_H → e3_G → Prop) (l1 : Int) (l2 : Int) (l3 : Int) (H : e3_H) (G : e3_G) : Prop :=
  (e3_ob G 8 (H 14 6)) ∧ (e3_oa G 0 (H (H 14 6) 2) l3) ∧ (((l1 : Int) = 0 → (wR_readPatterns_52 Q k4 l1 l2 l3 0 l3 (H (H (H 14 6) 2) l3) H G)) ∧ (¬ ((l1 : Int) = 0) → (((l3 : Int) = 0 → (wR_readPatterns_53 Q k4 l1 l2 l3 1 0 l3 (H (H (H 14 6) 2) l3) H G)) ∧ (¬ ((l3 : Int) = 0) → (wR_readPatterns_52 Q k4 l1 l2 l3 0 l3 (H (H (H 14 6) 2) l3) H G)))))
def wR_readPatterns_4 (Q : Int → e3_H → e3_G → Prop) : Nat → Int → Int → Int → e3_H → e3_G → Prop
  | 0, _, _, _, _, _ => False
  | nn + 1, l1, l2, l3, H, G => (e3_ob G 8 (H 14 6)) ∧ (((l3 : Int) < (H (H 14 6) 1) → (((0 : Int) < l3 → (wR_readComma (fun x4 H2 G3 => (((x4 : Int) = 0 → Q 0 H2 G3) ∧ (¬ ((x4 : Int) = 0) → (wR_readPatterns_28 Q (fun l1 l2 l3 H G => wR_readPatterns_4 Q nn l1 l2 l3 H G) l1 l2 l3 H2 G3)))) H G)) ∧ (¬ ((0 : Int) < l3) → (wR_readPatterns_28 Q (fun l1 l2 l3 H G => wR_readPatterns_4 Q nn l1 l2 l3 H G) l1 l2 l3 H G)))) ∧ (¬ ((l3 : Int) < (H (H 14 6) 1)) → (e3_ob G 9 (H 14 7)) ∧ (wA_chainWays (fun x8 H6 G7 => (e3_ob G7 9 (H 14 7)) ∧ ∀ H9 : e3_H, H9 = e3_up H6 (H 14 7) 3 x8 → ((((H9 3 7) : Int) = 44 → (wR_failHere (fun x13 H11 G12 => (((x13 : Int) = 0 → (wR_readPatterns_139 Q 0 H11 G12)) ∧ (¬ ((x13 : Int) = 0) → (wR_readPatterns_134 Q H11 G12)))) 6 H9 G7)) ∧ (¬ (((H9 3 7) : Int) = 44) → (wR_readPatterns_134 Q H9 G7)))) (H (H 14 7) 2) H G)))
def wR_readPatterns (Q : Int → e3_H → e3_G → Prop) (l1 : Int) (H : e3_H) (G : e3_G) : Prop :=
  (∃ n, wR_readPatterns_4 Q n l1 (-1) 0 H G)
set_option maxRecDepth 100000 in
set_option maxHeartbeats 4000000 in
theorem sR_readPatterns_139 (L : Nat) (xs : Nat → Int32) (Q : Int → e3_H → e3_G → Prop) (s0 : Int) (H : e3_H) (G : e3_G) (h : wR_readPatterns_139 Q s0 H G) : e3_Ev (wB L xs) 32 864 47 139 [(3, 0), (3, 0), (3, 0), (3, 0), (3, 0)] [(0, s0)] H G (e3_q0 Q) := by
  unfold wR_readPatterns_139 at h
  exact e3_retb (M := tbM47) rfl rfl rfl h.1 ⟨_, rfl, h.2⟩
set_option maxRecDepth 100000 in
set_option maxHeartbeats 4000000 in
theorem sR_readPatterns_134 (L : Nat) (xs : Nat → Int32) (Q : Int → e3_H → e3_G → Prop)  (H : e3_H) (G : e3_G) (h : wR_readPatterns_134 Q  H G) : e3_Ev (wB L xs) 32 864 47 134 [(3, 0), (3, 0), (3, 0), (3, 0), (3, 0)] [] H G (e3_q0 Q) := by
  unfold wR_readPatterns_134 at h
  refine e3_K [0, 0] 139 [(3, 0), (3, 0), (3, 0), (3, 0), (3, 0)] [(0, 1)] (H) (G) (wZ L xs) (M := tbM47) rfl rfl trivial ?_
  exact sR_readPatterns_139 L xs Q _ _ _ h
set_option maxRecDepth 100000 in
set_option maxHeartbeats 4000000 in
theorem sR_readPatterns_87 (L : Nat) (xs : Nat → Int32) (Q : Int → e3_H → e3_G → Prop) (k4 : Int → Int → Int → e3_H → e3_G → Prop) (hk4 : ∀ (l1 : Int) (l2 : Int) (l3 : Int) (H : e3_H) (G : e3_G), k4 l1 l2 l3 H G → e3_Ev (wB L xs) 32 864 47 4 [(2, 14), (0, l1), (2, l2), (0, l3), (3, 0)] [] H G (e3_q0 Q)) (l1 : Int) (l3 : Int) (l4 : Int) (H : e3_H) (G : e3_G) (h : wR_readPatterns_87 Q k4 l1 l3 l4 H G) : e3_Ev (wB L xs) 32 864 47 87 [(2, 14), (0, l1), (3, 0), (0, l3), (2, l4)] [] H G (e3_q0 Q) := by
  unfold wR_readPatterns_87 at h
  refine e3_K [0, 0, 0, 0] 4 [(2, 14), (0, l1), (2, l4), (0, (e3_w32 (l3 + 1))), (2, l4)] [] (H) (G) (wZ L xs) (M := tbM47) rfl rfl trivial ?_
  refine e3_fgt [true, true, true, true, false] ?_
  exact hk4 _ _ _ _ _ h
set_option maxRecDepth 100000 in
set_option maxHeartbeats 4000000 in
theorem sR_readPatterns_53 (L : Nat) (xs : Nat → Int32) (Q : Int → e3_H → e3_G → Prop) (k4 : Int → Int → Int → e3_H → e3_G → Prop) (hk4 : ∀ (l1 : Int) (l2 : Int) (l3 : Int) (H : e3_H) (G : e3_G), k4 l1 l2 l3 H G → e3_Ev (wB L xs) 32 864 47 4 [(2, 14), (0, l1), (2, l2), (0, l3), (3, 0)] [] H G (e3_q0 Q)) (l1 : Int) (l2 : Int) (l3 : Int) (s0 : Int) (s1 : Int) (s2 : Int) (s3 : Int) (H : e3_H) (G : e3_G) (h : wR_readPatterns_53 Q k4 l1 l2 l3 s0 s1 s2 s3 H G) : e3_Ev (wB L xs) 32 864 47 53 [(2, 14), (0, l1), (2, l2), (0, l3), (3, 0)] [(0, s0), (0, s1), (0, s2), (0, s3), (2, 14)] H G (e3_q0 Q) := by
  unfold wR_readPatterns_53 at h
  refine e3_call (o := 0) (k := 49) (M2 := tbM49) (f1 := (4 + 3 * 9)) (w1 := (144 + 77 * 9)) (as := [(2, 14), (0, s3), (0, s2), (0, s1), (0, s0)]) (rest := []) (M := tbM47) rfl rfl rfl trivial (Nat.le_of_ble_eq_true rfl) (Nat.le_of_ble_eq_true rfl) (Nat.le_of_ble_eq_true rfl) ?_
  refine e3_mono (sR_readPattern L xs 9 _ _ _ _ _ _ _ h) (fun r H1 G2 h => ?_)
  obtain ⟨x3, rfl, h⟩ := h
  change e3_Ev _ _ _ _ 56 [(2, 14), (0, l1), (2, l2), (0, l3), (3, 0)] [(2, x3)] H1 G2 _
  refine e3_K [0, 0] 60 [(2, 14), (0, l1), (2, l2), (0, l3), (2, x3)] [(2, x3)] (H1) (G2) (wZ L xs) (M := tbM47) rfl rfl trivial ?_
  refine e3_br (M := tbM47) rfl rfl rfl Iff.rfl (fun hc => ?_) (fun hc => ?_)
  · replace h := h.1 hc
    refine e3_K [0] 64 [(2, 14), (0, l1), (2, l2), (0, l3), (2, x3)] [(0, 0)] (H1) (G2) (wZ L xs) (M := tbM47) rfl rfl trivial ?_
    exact e3_retb (M := tbM47) rfl rfl rfl (Or.inl rfl) ⟨_, rfl, h⟩
  · replace h := h.2 hc
    refine e3_K [0] 66 [(2, 14), (0, l1), (2, l2), (0, l3), (2, x3)] [(2, l2)] (H1) (G2) (wZ L xs) (M := tbM47) rfl rfl trivial ?_
    refine e3_br (M := tbM47) rfl rfl rfl Iff.rfl (fun hc => ?_) (fun hc => ?_)
    · replace h := h.1 hc
      obtain ⟨o5, h⟩ := h
      refine e3_K [0, 2, 0, 3] 78 [(2, 14), (0, l1), (2, l2), (0, l3), (2, x3)] [] (e3_up H1 (H1 14 7) 2 x3) (G2) (wZ L xs) (M := tbM47) rfl rfl ⟨trivial, ⟨o5, trivial⟩, trivial⟩ ?_
      generalize hH4 : (e3_up H1 (H1 14 7) 2 x3) = H4
      replace h := h H4 hH4.symm
      refine e3_K [0] 87 [(2, 14), (0, l1), (2, l2), (0, l3), (2, x3)] [] (H4) (G2) (wZ L xs) (M := tbM47) rfl rfl trivial ?_
      refine e3_fgt [true, true, false, true, true] ?_
      exact sR_readPatterns_87 L xs Q k4 hk4 _ _ _ _ _ h
    · replace h := h.2 hc
      obtain ⟨o7, h⟩ := h
      refine e3_K [0, 0, 3] 87 [(2, 14), (0, l1), (2, l2), (0, l3), (2, x3)] [] (e3_up H1 l2 8 x3) (G2) (wZ L xs) (M := tbM47) rfl rfl ⟨⟨o7, trivial⟩, trivial⟩ ?_
      generalize hH6 : (e3_up H1 l2 8 x3) = H6
      replace h := h H6 hH6.symm
      refine e3_fgt [true, true, false, true, true] ?_
      exact sR_readPatterns_87 L xs Q k4 hk4 _ _ _ _ _ h
set_option maxRecDepth 100000 in
set_option maxHeartbeats 4000000 in
theorem sR_readPatterns_52 (L : Nat) (xs : Nat → Int32) (Q : Int → e3_H → e3_G → Prop) (k4 : Int → Int → Int → e3_H → e3_G → Prop) (hk4 : ∀ (l1 : Int) (l2 : Int) (l3 : Int) (H : e3_H) (G : e3_G), k4 l1 l2 l3 H G → e3_Ev (wB L xs) 32 864 47 4 [(2, 14), (0, l1), (2, l2), (0, l3), (3, 0)] [] H G (e3_q0 Q)) (l1 : Int) (l2 : Int) (l3 : Int) (s0 : Int) (s1 : Int) (s2 : Int) (H : e3_H) (G : e3_G) (h : wR_readPatterns_52 Q k4 l1 l2 l3 s0 s1 s2 H G) : e3_Ev (wB L xs) 32 864 47 52 [(2, 14), (0, l1), (2, l2), (0, l3), (3, 0)] [(0, s0), (0, s1), (0, s2), (2, 14)] H G (e3_q0 Q) := by
  unfold wR_readPatterns_52 at h
  refine e3_K [0] 53 [(2, 14), (0, l1), (2, l2), (0, l3), (3, 0)] [(0, 0), (0, s0), (0, s1), (0, s2), (2, 14)] (H) (G) (wZ L xs) (M := tbM47) rfl rfl trivial ?_
  exact sR_readPatterns_53 L xs Q k4 hk4 _ _ _ _ _ _ _ _ _ h
set_option maxRecDepth 100000 in
set_option maxHeartbeats 4000000 in
theorem sR_readPatterns_28 (L : Nat) (xs : Nat → Int32) (Q : Int → e3_H → e3_G → Prop) (k4 : Int → Int → Int → e3_H → e3_G → Prop) (hk4 : ∀ (l1 : Int) (l2 : Int) (l3 : Int) (H : e3_H) (G : e3_G), k4 l1 l2 l3 H G → e3_Ev (wB L xs) 32 864 47 4 [(2, 14), (0, l1), (2, l2), (0, l3), (3, 0)] [] H G (e3_q0 Q)) (l1 : Int) (l2 : Int) (l3 : Int) (H : e3_H) (G : e3_G) (h : wR_readPatterns_28 Q k4 l1 l2 l3 H G) : e3_Ev (wB L xs) 32 864 47 28 [(2, 14), (0, l1), (2, l2), (0, l3), (3, 0)] [] H G (e3_q0 Q) := by
  unfold wR_readPatterns_28 at h
  obtain ⟨o1, o2, h⟩ := h
  refine e3_K [0, 0, 2, 3, 0, 3, 0, 0, 0] 41 [(2, 14), (0, l1), (2, l2), (0, l3), (3, 0)] [(0, l1), (0, 0), (0, l3), (0, (H (H (H 14 6) 2) l3)), (2, 14)] (H) (G) (wZ L xs) (M := tbM47) rfl rfl ⟨trivial, o1, o2, trivial⟩ ?_
  refine e3_br (M := tbM47) rfl rfl rfl Iff.rfl (fun hc => ?_) (fun hc => ?_)
  · replace h := h.1 hc
    exact sR_readPatterns_52 L xs Q k4 hk4 _ _ _ _ _ _ _ _ h
  · replace h := h.2 hc
    refine e3_K [0] 45 [(2, 14), (0, l1), (2, l2), (0, l3), (3, 0)] [(0, l3), (0, 0), (0, l3), (0, (H (H (H 14 6) 2) l3)), (2, 14)] (H) (G) (wZ L xs) (M := tbM47) rfl rfl trivial ?_
    refine e3_br (M := tbM47) rfl rfl rfl Iff.rfl (fun hc => ?_) (fun hc => ?_)
    · replace h := h.1 hc
      refine e3_K [0, 0] 53 [(2, 14), (0, l1), (2, l2), (0, l3), (3, 0)] [(0, 1), (0, 0), (0, l3), (0, (H (H (H 14 6) 2) l3)), (2, 14)] (H) (G) (wZ L xs) (M := tbM47) rfl rfl trivial ?_
      exact sR_readPatterns_53 L xs Q k4 hk4 _ _ _ _ _ _ _ _ _ h
    · replace h := h.2 hc
      exact sR_readPatterns_52 L xs Q k4 hk4 _ _ _ _ _ _ _ _ h
set_option maxRecDepth 100000 in
set_option maxHeartbeats 4000000 in
theorem sR_readPatterns_4 (L : Nat) (xs : Nat → Int32) (Q : Int → e3_H → e3_G → Prop) : ∀ (nl : Nat) (l1 : Int) (l2 : Int) (l3 : Int) (H : e3_H) (G : e3_G), wR_readPatterns_4 Q nl l1 l2 l3 H G → e3_Ev (wB L xs) 32 864 47 4 [(2, 14), (0, l1), (2, l2), (0, l3), (3, 0)] [] H G (e3_q0 Q) := by
  intro nl
  induction nl with
  | zero => intro l1 l2 l3 H G h; exact h.elim
  | succ nn ih =>
    intro l1 l2 l3 H G h
    have h : (e3_ob G 8 (H 14 6)) ∧ (((l3 : Int) < (H (H 14 6) 1) → (((0 : Int) < l3 → (wR_readComma (fun x4 H2 G3 => (((x4 : Int) = 0 → Q 0 H2 G3) ∧ (¬ ((x4 : Int) = 0) → (wR_readPatterns_28 Q (fun l1 l2 l3 H G => wR_readPatterns_4 Q nn l1 l2 l3 H G) l1 l2 l3 H2 G3)))) H G)) ∧ (¬ ((0 : Int) < l3) → (wR_readPatterns_28 Q (fun l1 l2 l3 H G => wR_readPatterns_4 Q nn l1 l2 l3 H G) l1 l2 l3 H G)))) ∧ (¬ ((l3 : Int) < (H (H 14 6) 1)) → (e3_ob G 9 (H 14 7)) ∧ (wA_chainWays (fun x8 H6 G7 => (e3_ob G7 9 (H 14 7)) ∧ ∀ H9 : e3_H, H9 = e3_up H6 (H 14 7) 3 x8 → ((((H9 3 7) : Int) = 44 → (wR_failHere (fun x13 H11 G12 => (((x13 : Int) = 0 → (wR_readPatterns_139 Q 0 H11 G12)) ∧ (¬ ((x13 : Int) = 0) → (wR_readPatterns_134 Q H11 G12)))) 6 H9 G7)) ∧ (¬ (((H9 3 7) : Int) = 44) → (wR_readPatterns_134 Q H9 G7)))) (H (H 14 7) 2) H G))) := h
    obtain ⟨o1, h⟩ := h
    refine e3_K [0, 0, 2, 3] 12 [(2, 14), (0, l1), (2, l2), (0, l3), (3, 0)] [(0, (H (H 14 6) 1)), (0, l3)] (H) (G) (wZ L xs) (M := tbM47) rfl rfl ⟨trivial, o1, trivial⟩ ?_
    refine e3_br (M := tbM47) rfl rfl rfl Iff.rfl (fun hc => ?_) (fun hc => ?_)
    · replace h := h.1 hc
      refine e3_K [0] 16 [(2, 14), (0, l1), (2, l2), (0, l3), (3, 0)] [(0, l3)] (H) (G) (wZ L xs) (M := tbM47) rfl rfl trivial ?_
      refine e3_br (M := tbM47) rfl rfl rfl Iff.rfl (fun hc => ?_) (fun hc => ?_)
      · replace h := h.1 hc
        refine e3_K [0] 20 [(2, 14), (0, l1), (2, l2), (0, l3), (3, 0)] [(2, 14)] (H) (G) (wZ L xs) (M := tbM47) rfl rfl trivial ?_
        refine e3_call (o := 0) (k := 48) (M2 := tbM48) (f1 := 1) (w1 := 21) (as := [(2, 14)]) (rest := []) (M := tbM47) rfl rfl rfl trivial (Nat.le_of_ble_eq_true rfl) (Nat.le_of_ble_eq_true rfl) (Nat.le_of_ble_eq_true rfl) ?_
        refine e3_mono (sR_readComma L xs _ _ _ h) (fun r H2 G3 h => ?_)
        obtain ⟨x4, rfl, h⟩ := h
        change e3_Ev _ _ _ _ 23 [(2, 14), (0, l1), (2, l2), (0, l3), (3, 0)] [(0, x4)] H2 G3 _
        refine e3_br (M := tbM47) rfl rfl rfl Iff.rfl (fun hc => ?_) (fun hc => ?_)
        · replace h := h.1 hc
          refine e3_K [0] 27 [(2, 14), (0, l1), (2, l2), (0, l3), (3, 0)] [(0, 0)] (H2) (G3) (wZ L xs) (M := tbM47) rfl rfl trivial ?_
          exact e3_retb (M := tbM47) rfl rfl rfl (Or.inl rfl) ⟨_, rfl, h⟩
        · replace h := h.2 hc
          exact sR_readPatterns_28 L xs Q (fun l1 l2 l3 H G => wR_readPatterns_4 Q nn l1 l2 l3 H G) ih _ _ _ _ _ h
      · replace h := h.2 hc
        exact sR_readPatterns_28 L xs Q (fun l1 l2 l3 H G => wR_readPatterns_4 Q nn l1 l2 l3 H G) ih _ _ _ _ _ h
    · replace h := h.2 hc
      obtain ⟨o5, h⟩ := h
      refine e3_K [0, 2, 0, 2, 3] 107 [(2, 14), (0, l1), (2, l2), (0, l3), (3, 0)] [(2, (H (H 14 7) 2)), (2, (H 14 7))] (H) (G) (wZ L xs) (M := tbM47) rfl rfl ⟨trivial, trivial, o5, trivial⟩ ?_
      refine e3_call (o := 0) (k := 70) (M2 := tbM70) (f1 := 1) (w1 := 21) (as := [(2, (H (H 14 7) 2))]) (rest := [(2, (H 14 7))]) (M := tbM47) rfl rfl rfl trivial (Nat.le_of_ble_eq_true rfl) (Nat.le_of_ble_eq_true rfl) (Nat.le_of_ble_eq_true rfl) ?_
      refine e3_mono (sA_chainWays L xs _ _ _ _ h) (fun r H6 G7 h => ?_)
      obtain ⟨x8, rfl, h⟩ := h
      change e3_Ev _ _ _ _ 110 [(2, 14), (0, l1), (2, l2), (0, l3), (3, 0)] [(0, x8), (2, (H 14 7))] H6 G7 _
      obtain ⟨o10, h⟩ := h
      refine e3_K [3] 113 [(2, 14), (0, l1), (2, l2), (0, l3), (3, 0)] [] (e3_up H6 (H 14 7) 3 x8) (G7) (wZ L xs) (M := tbM47) rfl rfl ⟨⟨o10, trivial⟩, trivial⟩ ?_
      generalize hH9 : (e3_up H6 (H 14 7) 3 x8) = H9
      replace h := h H9 hH9.symm
      refine e3_K [0, 4, 2, 0] 122 [(2, 14), (0, l1), (2, l2), (0, l3), (3, 0)] [(0, 44), (0, (H9 3 7))] (H9) (G7) (wZ L xs) (M := tbM47) rfl rfl ⟨trivial, trivial, trivial⟩ ?_
      refine e3_br (M := tbM47) rfl rfl rfl Iff.rfl (fun hc => ?_) (fun hc => ?_)
      · replace h := h.1 hc
        refine e3_K [0, 0] 128 [(2, 14), (0, l1), (2, l2), (0, l3), (3, 0)] [(0, 6), (2, 14)] (H9) (G7) (wZ L xs) (M := tbM47) rfl rfl trivial ?_
        refine e3_call (o := 0) (k := 27) (M2 := tbM27) (f1 := 0) (w1 := 0) (as := [(2, 14), (0, 6)]) (rest := []) (M := tbM47) rfl rfl rfl trivial (Nat.le_of_ble_eq_true rfl) (Nat.le_of_ble_eq_true rfl) (Nat.le_of_ble_eq_true rfl) ?_
        refine e3_mono (sR_failHere L xs _ _ _ _ h) (fun r H11 G12 h => ?_)
        obtain ⟨x13, rfl, h⟩ := h
        change e3_Ev _ _ _ _ 131 [(2, 14), (0, l1), (2, l2), (0, l3), (3, 0)] [(0, x13)] H11 G12 _
        refine e3_br (M := tbM47) rfl rfl rfl Iff.rfl (fun hc => ?_) (fun hc => ?_)
        · replace h := h.1 hc
          refine e3_K [0] 139 [(2, 14), (0, l1), (2, l2), (0, l3), (3, 0)] [(0, 0)] (H11) (G12) (wZ L xs) (M := tbM47) rfl rfl trivial ?_
          refine e3_fgt [false, false, false, false, false] ?_
          exact sR_readPatterns_139 L xs Q _ _ _ h
        · replace h := h.2 hc
          refine e3_fgt [false, false, false, false, false] ?_
          exact sR_readPatterns_134 L xs Q _ _ h
      · replace h := h.2 hc
        refine e3_fgt [false, false, false, false, false] ?_
        exact sR_readPatterns_134 L xs Q _ _ h
set_option maxRecDepth 100000 in
set_option maxHeartbeats 4000000 in
theorem sR_readPatterns (L : Nat) (xs : Nat → Int32) (Q : Int → e3_H → e3_G → Prop) (l1 : Int) (H : e3_H) (G : e3_G) (h : wR_readPatterns Q l1 H G) : e3_Ev (wB L xs) 32 864 47 0 [(2, 14), (0, l1), (3, 0), (3, 0), (3, 0)] [] H G (e3_q0 Q) := by
  unfold wR_readPatterns at h
  refine e3_K [0, 0, 0, 0] 4 [(2, 14), (0, l1), (2, (-1)), (0, 0), (3, 0)] [] (H) (G) (wZ L xs) (M := tbM47) rfl rfl trivial ?_
  obtain ⟨nl, h⟩ := h
  exact sR_readPatterns_4 L xs Q nl _ _ _ _ _ h
/-- LetterPost$Reader.readWholeName()I -/
def wR_readWholeName (Q : Int → e3_H → e3_G → Prop)  (H : e3_H) (G : e3_G) : Prop :=
  (e3_ob G 9 (H 14 7)) ∧ (wU_nameNumber (fun x3 H1 G2 => (((x3 : Int) < 0 → (wR_failHere (fun x6 H4 G5 => Q (-1) H4 G5) 4 H1 G2)) ∧ (¬ ((x3 : Int) < 0) → (e3_ob G2 9 (H1 14 7)) ∧ (wU_nameSort (fun x9 H7 G8 => (((x9 : Int) = 0 → (wT_step (fun H10 G11 => Q x3 H10 G11) H7 G8)) ∧ (¬ ((x9 : Int) = 0) → (wR_failHere (fun x15 H13 G14 => Q (-1) H13 G14) 5 H7 G8)))) (H1 14 7) x3 H1 G2)))) (H 14 7) (H 3 9) H G)
set_option maxRecDepth 100000 in
set_option maxHeartbeats 4000000 in
theorem sR_readWholeName (L : Nat) (xs : Nat → Int32) (Q : Int → e3_H → e3_G → Prop)  (H : e3_H) (G : e3_G) (h : wR_readWholeName Q  H G) : e3_Ev (wB L xs) 1 23 76 0 [(2, 14), (3, 0)] [] H G (e3_q0 Q) := by
  unfold wR_readWholeName at h
  refine e3_K [0, 2, 0, 4, 2] 11 [(2, 14), (3, 0)] [(1, (H 3 9)), (2, (H 14 7))] (H) (G) (wZ L xs) (M := tbM76) rfl rfl ⟨trivial, trivial, trivial, trivial⟩ ?_
  obtain ⟨oz, h⟩ := h
  refine e3_call (o := 1) (k := 52) (M2 := tbM52) (f1 := 0) (w1 := 0) (as := [(2, (H 14 7)), (1, (H 3 9))]) (rest := []) (M := tbM76) rfl rfl rfl oz (Nat.le_of_ble_eq_true rfl) (Nat.le_of_ble_eq_true rfl) (Nat.le_of_ble_eq_true rfl) ?_
  refine e3_mono (sU_nameNumber L xs _ _ _ _ _ h) (fun r H1 G2 h => ?_)
  obtain ⟨x3, rfl, h⟩ := h
  change e3_Ev _ _ _ _ 14 [(2, 14), (3, 0)] [(0, x3)] H1 G2 _
  refine e3_K [0, 0] 16 [(2, 14), (0, x3)] [(0, x3)] (H1) (G2) (wZ L xs) (M := tbM76) rfl rfl trivial ?_
  refine e3_br (M := tbM76) rfl rfl rfl Iff.rfl (fun hc => ?_) (fun hc => ?_)
  · replace h := h.1 hc
    refine e3_K [0, 0] 21 [(2, 14), (0, x3)] [(0, 4), (2, 14)] (H1) (G2) (wZ L xs) (M := tbM76) rfl rfl trivial ?_
    refine e3_call (o := 0) (k := 27) (M2 := tbM27) (f1 := 0) (w1 := 0) (as := [(2, 14), (0, 4)]) (rest := []) (M := tbM76) rfl rfl rfl trivial (Nat.le_of_ble_eq_true rfl) (Nat.le_of_ble_eq_true rfl) (Nat.le_of_ble_eq_true rfl) ?_
    refine e3_mono (sR_failHere L xs _ _ _ _ h) (fun r H4 G5 h => ?_)
    obtain ⟨x6, rfl, h⟩ := h
    change e3_Ev _ _ _ _ 24 [(2, 14), (0, x3)] [(0, x6)] H4 G5 _
    refine e3_K [0, 0] 26 [(2, 14), (0, x3)] [(0, (-1))] (H4) (G5) (wZ L xs) (M := tbM76) rfl rfl trivial ?_
    exact e3_reti (M := tbM76) rfl rfl rfl ⟨_, rfl, h⟩
  · replace h := h.2 hc
    refine e3_K [0, 2, 0] 32 [(2, 14), (0, x3)] [(0, x3), (2, (H1 14 7))] (H1) (G2) (wZ L xs) (M := tbM76) rfl rfl ⟨trivial, trivial⟩ ?_
    obtain ⟨oz, h⟩ := h
    refine e3_call (o := 1) (k := 53) (M2 := tbM53) (f1 := 0) (w1 := 0) (as := [(2, (H1 14 7)), (0, x3)]) (rest := []) (M := tbM76) rfl rfl rfl oz (Nat.le_of_ble_eq_true rfl) (Nat.le_of_ble_eq_true rfl) (Nat.le_of_ble_eq_true rfl) ?_
    refine e3_mono (sU_nameSort L xs _ _ _ _ _ h) (fun r H7 G8 h => ?_)
    obtain ⟨x9, rfl, h⟩ := h
    change e3_Ev _ _ _ _ 35 [(2, 14), (0, x3)] [(0, x9)] H7 G8 _
    refine e3_br (M := tbM76) rfl rfl rfl Iff.rfl (fun hc => ?_) (fun hc => ?_)
    · replace h := h.1 hc
      refine e3_K [0, 4] 50 [(2, 14), (0, x3)] [(2, 3)] (H7) (G8) (wZ L xs) (M := tbM76) rfl rfl ⟨trivial, trivial⟩ ?_
      refine e3_call (o := 0) (k := 25) (M2 := tbM25) (f1 := 0) (w1 := 0) (as := [(2, 3)]) (rest := []) (M := tbM76) rfl rfl rfl trivial (Nat.le_of_ble_eq_true rfl) (Nat.le_of_ble_eq_true rfl) (Nat.le_of_ble_eq_true rfl) ?_
      refine e3_mono (sT_step L xs _ _ _ h) (fun r H10 G11 h => ?_)
      obtain ⟨rfl, h⟩ := h
      change e3_Ev _ _ _ _ 53 [(2, 14), (0, x3)] [] H10 G11 _
      refine e3_K [0] 54 [(2, 14), (0, x3)] [(0, x3)] (H10) (G11) (wZ L xs) (M := tbM76) rfl rfl trivial ?_
      exact e3_reti (M := tbM76) rfl rfl rfl ⟨_, rfl, h⟩
    · replace h := h.2 hc
      refine e3_K [0, 0] 40 [(2, 14), (0, x3)] [(0, 5), (2, 14)] (H7) (G8) (wZ L xs) (M := tbM76) rfl rfl trivial ?_
      refine e3_call (o := 0) (k := 27) (M2 := tbM27) (f1 := 0) (w1 := 0) (as := [(2, 14), (0, 5)]) (rest := []) (M := tbM76) rfl rfl rfl trivial (Nat.le_of_ble_eq_true rfl) (Nat.le_of_ble_eq_true rfl) (Nat.le_of_ble_eq_true rfl) ?_
      refine e3_mono (sR_failHere L xs _ _ _ _ h) (fun r H13 G14 h => ?_)
      obtain ⟨x15, rfl, h⟩ := h
      change e3_Ev _ _ _ _ 43 [(2, 14), (0, x3)] [(0, x15)] H13 G14 _
      refine e3_K [0, 0] 45 [(2, 14), (0, x3)] [(0, (-1))] (H13) (G14) (wZ L xs) (M := tbM76) rfl rfl trivial ?_
      exact e3_reti (M := tbM76) rfl rfl rfl ⟨_, rfl, h⟩
/-- LetterPost$Reader.readTerm(I)Z -/
def wR_readTerm_86 (Q : Int → e3_H → e3_G → Prop) (s0 : Int) (H : e3_H) (G : e3_G) : Prop :=
  ((s0 : Int) = 0 ∨ s0 = 1) ∧ Q s0 H G
def wR_readTerm_53 (Q : Int → e3_H → e3_G → Prop) (s0 : Int) (H : e3_H) (G : e3_G) : Prop :=
  ((s0 : Int) = 0 ∨ s0 = 1) ∧ Q s0 H G
def wR_readTerm (Q : Int → e3_H → e3_G → Prop) (l1 : Int) (H : e3_H) (G : e3_G) : Prop :=
  (e3_ob G 9 (H 14 7)) ∧ (e3_oa G 0 (H (H 14 7) 9) l1) ∧ ∀ H1 : e3_H, H1 = e3_up H (H (H 14 7) 9) l1 (-1) → ((((H1 3 7) : Int) = 258 → (e3_ob G 9 (H1 14 7)) ∧ (wR_readWholeName (fun x7 H5 G6 => (e3_oa G6 0 (H1 (H1 14 7) 9) l1) ∧ ∀ H8 : e3_H, H8 = e3_up H5 (H1 (H1 14 7) 9) l1 x7 → (e3_ob G6 9 (H8 14 7)) ∧ (e3_oa G6 0 (H8 (H8 14 7) 9) l1) ∧ ((((H8 (H8 (H8 14 7) 9) l1) : Int) < 0 → (wR_readTerm_53 Q 0 H8 G6)) ∧ (¬ (((H8 (H8 (H8 14 7) 9) l1) : Int) < 0) → (wR_readTerm_53 Q 1 H8 G6)))) H1 G)) ∧ (¬ (((H1 3 7) : Int) = 258) → (e3_ob G 9 (H1 14 7)) ∧ (wR_readNumber (fun x15 H13 G14 => (e3_oa G14 0 (H1 (H1 14 7) 10) l1) ∧ ∀ H16 : e3_H, H16 = e3_up H13 (H1 (H1 14 7) 10) l1 x15 → (e3_ob G14 9 (H16 14 7)) ∧ (e3_oa G14 0 (H16 (H16 14 7) 10) l1) ∧ ((((H16 (H16 (H16 14 7) 10) l1) : Int) = ((-2147483648 : Int32).toInt) → (wR_readTerm_86 Q 0 H16 G14)) ∧ (¬ (((H16 (H16 (H16 14 7) 10) l1) : Int) = ((-2147483648 : Int32).toInt)) → (wR_readTerm_86 Q 1 H16 G14)))) H1 G)))
set_option maxRecDepth 100000 in
set_option maxHeartbeats 4000000 in
theorem sR_readTerm_86 (L : Nat) (xs : Nat → Int32) (Q : Int → e3_H → e3_G → Prop) (s0 : Int) (H : e3_H) (G : e3_G) (h : wR_readTerm_86 Q s0 H G) : e3_Ev (wB L xs) 2 44 75 86 [(3, 0), (3, 0)] [(0, s0)] H G (e3_q0 Q) := by
  unfold wR_readTerm_86 at h
  exact e3_retb (M := tbM75) rfl rfl rfl h.1 ⟨_, rfl, h.2⟩
set_option maxRecDepth 100000 in
set_option maxHeartbeats 4000000 in
theorem sR_readTerm_53 (L : Nat) (xs : Nat → Int32) (Q : Int → e3_H → e3_G → Prop) (s0 : Int) (H : e3_H) (G : e3_G) (h : wR_readTerm_53 Q s0 H G) : e3_Ev (wB L xs) 2 44 75 53 [(3, 0), (3, 0)] [(0, s0)] H G (e3_q0 Q) := by
  unfold wR_readTerm_53 at h
  exact e3_retb (M := tbM75) rfl rfl rfl h.1 ⟨_, rfl, h.2⟩
set_option maxRecDepth 100000 in
set_option maxHeartbeats 4000000 in
theorem sR_readTerm (L : Nat) (xs : Nat → Int32) (Q : Int → e3_H → e3_G → Prop) (l1 : Int) (H : e3_H) (G : e3_G) (h : wR_readTerm Q l1 H G) : e3_Ev (wB L xs) 2 44 75 0 [(2, 14), (0, l1)] [] H G (e3_q0 Q) := by
  unfold wR_readTerm at h
  obtain ⟨o2, o3, h⟩ := h
  refine e3_K [0, 2, 3, 0, 0, 3] 10 [(2, 14), (0, l1)] [] (e3_up H (H (H 14 7) 9) l1 (-1)) (G) (wZ L xs) (M := tbM75) rfl rfl ⟨trivial, o2, o3, trivial⟩ ?_
  generalize hH1 : (e3_up H (H (H 14 7) 9) l1 (-1)) = H1
  replace h := h H1 hH1.symm
  refine e3_K [0, 4, 2, 0] 20 [(2, 14), (0, l1)] [(0, 258), (0, (H1 3 7))] (H1) (G) (wZ L xs) (M := tbM75) rfl rfl ⟨trivial, trivial, trivial⟩ ?_
  refine e3_br (M := tbM75) rfl rfl rfl Iff.rfl (fun hc => ?_) (fun hc => ?_)
  · replace h := h.1 hc
    obtain ⟨o4, h⟩ := h
    refine e3_K [0, 2, 3, 0, 0] 32 [(2, 14), (0, l1)] [(2, 14), (0, l1), (2, (H1 (H1 14 7) 9))] (H1) (G) (wZ L xs) (M := tbM75) rfl rfl ⟨trivial, o4, trivial⟩ ?_
    refine e3_call (o := 0) (k := 76) (M2 := tbM76) (f1 := 1) (w1 := 23) (as := [(2, 14)]) (rest := [(0, l1), (2, (H1 (H1 14 7) 9))]) (M := tbM75) rfl rfl rfl trivial (Nat.le_of_ble_eq_true rfl) (Nat.le_of_ble_eq_true rfl) (Nat.le_of_ble_eq_true rfl) ?_
    refine e3_mono (sR_readWholeName L xs _ _ _ h) (fun r H5 G6 h => ?_)
    obtain ⟨x7, rfl, h⟩ := h
    change e3_Ev _ _ _ _ 35 [(2, 14), (0, l1)] [(0, x7), (0, l1), (2, (H1 (H1 14 7) 9))] H5 G6 _
    obtain ⟨o9, h⟩ := h
    refine e3_K [3] 36 [(2, 14), (0, l1)] [] (e3_up H5 (H1 (H1 14 7) 9) l1 x7) (G6) (wZ L xs) (M := tbM75) rfl rfl ⟨o9, trivial⟩ ?_
    generalize hH8 : (e3_up H5 (H1 (H1 14 7) 9) l1 x7) = H8
    replace h := h H8 hH8.symm
    obtain ⟨o10, o11, h⟩ := h
    refine e3_K [0, 2, 3, 0, 3] 45 [(2, 14), (0, l1)] [(0, (H8 (H8 (H8 14 7) 9) l1))] (H8) (G6) (wZ L xs) (M := tbM75) rfl rfl ⟨trivial, o10, o11, trivial⟩ ?_
    refine e3_br (M := tbM75) rfl rfl rfl Iff.rfl (fun hc => ?_) (fun hc => ?_)
    · replace h := h.1 hc
      refine e3_K [0] 53 [(2, 14), (0, l1)] [(0, 0)] (H8) (G6) (wZ L xs) (M := tbM75) rfl rfl trivial ?_
      refine e3_fgt [false, false] ?_
      exact sR_readTerm_53 L xs Q _ _ _ h
    · replace h := h.2 hc
      refine e3_K [0, 0] 53 [(2, 14), (0, l1)] [(0, 1)] (H8) (G6) (wZ L xs) (M := tbM75) rfl rfl trivial ?_
      refine e3_fgt [false, false] ?_
      exact sR_readTerm_53 L xs Q _ _ _ h
  · replace h := h.2 hc
    obtain ⟨o12, h⟩ := h
    refine e3_K [0, 2, 3, 0, 0] 63 [(2, 14), (0, l1)] [(2, 14), (0, l1), (2, (H1 (H1 14 7) 10))] (H1) (G) (wZ L xs) (M := tbM75) rfl rfl ⟨trivial, o12, trivial⟩ ?_
    refine e3_call (o := 0) (k := 63) (M2 := tbM63) (f1 := 1) (w1 := 21) (as := [(2, 14)]) (rest := [(0, l1), (2, (H1 (H1 14 7) 10))]) (M := tbM75) rfl rfl rfl trivial (Nat.le_of_ble_eq_true rfl) (Nat.le_of_ble_eq_true rfl) (Nat.le_of_ble_eq_true rfl) ?_
    refine e3_mono (sR_readNumber L xs _ _ _ h) (fun r H13 G14 h => ?_)
    obtain ⟨x15, rfl, h⟩ := h
    change e3_Ev _ _ _ _ 66 [(2, 14), (0, l1)] [(0, x15), (0, l1), (2, (H1 (H1 14 7) 10))] H13 G14 _
    obtain ⟨o17, h⟩ := h
    refine e3_K [3] 67 [(2, 14), (0, l1)] [] (e3_up H13 (H1 (H1 14 7) 10) l1 x15) (G14) (wZ L xs) (M := tbM75) rfl rfl ⟨o17, trivial⟩ ?_
    generalize hH16 : (e3_up H13 (H1 (H1 14 7) 10) l1 x15) = H16
    replace h := h H16 hH16.symm
    obtain ⟨o18, o19, h⟩ := h
    refine e3_K [0, 2, 3, 0, 3, 2] 78 [(2, 14), (0, l1)] [(0, ((-2147483648 : Int32).toInt)), (0, (H16 (H16 (H16 14 7) 10) l1))] (H16) (G14) (wZ L xs) (M := tbM75) rfl rfl ⟨trivial, o18, o19, trivial, trivial⟩ ?_
    refine e3_br (M := tbM75) rfl rfl rfl Iff.rfl (fun hc => ?_) (fun hc => ?_)
    · replace h := h.1 hc
      refine e3_K [0] 86 [(2, 14), (0, l1)] [(0, 0)] (H16) (G14) (wZ L xs) (M := tbM75) rfl rfl trivial ?_
      refine e3_fgt [false, false] ?_
      exact sR_readTerm_86 L xs Q _ _ _ h
    · replace h := h.2 hc
      refine e3_K [0, 0] 86 [(2, 14), (0, l1)] [(0, 1)] (H16) (G14) (wZ L xs) (M := tbM75) rfl rfl trivial ?_
      refine e3_fgt [false, false] ?_
      exact sR_readTerm_86 L xs Q _ _ _ h
/-- LetterPost$Reader.readSum(I)Z -/
def wR_readSum_52 (Q : Int → e3_H → e3_G → Prop) (l1 : Int) (l2 : Int) (H : e3_H) (G : e3_G) : Prop :=
  (e3_ob G 9 (H 14 7)) ∧ (e3_oa G 0 (H (H 14 7) 8) l1) ∧ ∀ H1 : e3_H, H1 = e3_up H (H (H 14 7) 8) l1 l2 → (wT_step (fun H4 G5 => (wR_readTerm (fun x9 H7 G8 => ((x9 : Int) = 0 ∨ x9 = 1) ∧ Q x9 H7 G8) (e3_w32 ((e3_w32 (2 * l1)) + 1)) H4 G5)) H1 G)
def wR_readSum (Q : Int → e3_H → e3_G → Prop) (l1 : Int) (H : e3_H) (G : e3_G) : Prop :=
  (wR_readTerm (fun x3 H1 G2 => (((x3 : Int) = 0 → Q 0 H1 G2) ∧ (¬ ((x3 : Int) = 0) → ((((H1 3 7) : Int) = 43 → (wR_readSum_52 Q l1 (H1 3 7) H1 G2)) ∧ (¬ (((H1 3 7) : Int) = 43) → ((((H1 3 7) : Int) = 45 → (wR_readSum_52 Q l1 (H1 3 7) H1 G2)) ∧ (¬ (((H1 3 7) : Int) = 45) → ((((H1 3 7) : Int) = 42 → (wR_readSum_52 Q l1 (H1 3 7) H1 G2)) ∧ (¬ (((H1 3 7) : Int) = 42) → ((((H1 3 7) : Int) = 47 → (wR_readSum_52 Q l1 (H1 3 7) H1 G2)) ∧ (¬ (((H1 3 7) : Int) = 47) → ((((H1 3 7) : Int) = 37 → (wR_readSum_52 Q l1 (H1 3 7) H1 G2)) ∧ (¬ (((H1 3 7) : Int) = 37) → Q 1 H1 G2))))))))))))) (e3_w32 (2 * l1)) H G)
set_option maxRecDepth 100000 in
set_option maxHeartbeats 4000000 in
theorem sR_readSum_52 (L : Nat) (xs : Nat → Int32) (Q : Int → e3_H → e3_G → Prop) (l1 : Int) (l2 : Int) (H : e3_H) (G : e3_G) (h : wR_readSum_52 Q l1 l2 H G) : e3_Ev (wB L xs) 3 65 74 52 [(2, 14), (0, l1), (0, l2)] [] H G (e3_q0 Q) := by
  unfold wR_readSum_52 at h
  obtain ⟨o2, o3, h⟩ := h
  refine e3_K [0, 2, 3, 0, 0, 3] 62 [(2, 14), (0, l1), (0, l2)] [] (e3_up H (H (H 14 7) 8) l1 l2) (G) (wZ L xs) (M := tbM74) rfl rfl ⟨trivial, o2, o3, trivial⟩ ?_
  generalize hH1 : (e3_up H (H (H 14 7) 8) l1 l2) = H1
  replace h := h H1 hH1.symm
  refine e3_K [0, 4] 66 [(2, 14), (0, l1), (0, l2)] [(2, 3)] (H1) (G) (wZ L xs) (M := tbM74) rfl rfl ⟨trivial, trivial⟩ ?_
  refine e3_call (o := 0) (k := 25) (M2 := tbM25) (f1 := 0) (w1 := 0) (as := [(2, 3)]) (rest := []) (M := tbM74) rfl rfl rfl trivial (Nat.le_of_ble_eq_true rfl) (Nat.le_of_ble_eq_true rfl) (Nat.le_of_ble_eq_true rfl) ?_
  refine e3_mono (sT_step L xs _ _ _ h) (fun r H4 G5 h => ?_)
  obtain ⟨rfl, h⟩ := h
  change e3_Ev _ _ _ _ 69 [(2, 14), (0, l1), (0, l2)] [] H4 G5 _
  refine e3_K [0, 0, 0, 0, 0, 0] 75 [(2, 14), (0, l1), (0, l2)] [(0, (e3_w32 ((e3_w32 (2 * l1)) + 1))), (2, 14)] (H4) (G5) (wZ L xs) (M := tbM74) rfl rfl trivial ?_
  refine e3_call (o := 0) (k := 75) (M2 := tbM75) (f1 := 2) (w1 := 44) (as := [(2, 14), (0, (e3_w32 ((e3_w32 (2 * l1)) + 1)))]) (rest := []) (M := tbM74) rfl rfl rfl trivial (Nat.le_of_ble_eq_true rfl) (Nat.le_of_ble_eq_true rfl) (Nat.le_of_ble_eq_true rfl) ?_
  refine e3_mono (sR_readTerm L xs _ _ _ _ h) (fun r H7 G8 h => ?_)
  obtain ⟨x9, rfl, h⟩ := h
  change e3_Ev _ _ _ _ 78 [(2, 14), (0, l1), (0, l2)] [(0, x9)] H7 G8 _
  exact e3_retb (M := tbM74) rfl rfl rfl h.1 ⟨_, rfl, h.2⟩
set_option maxRecDepth 100000 in
set_option maxHeartbeats 4000000 in
theorem sR_readSum (L : Nat) (xs : Nat → Int32) (Q : Int → e3_H → e3_G → Prop) (l1 : Int) (H : e3_H) (G : e3_G) (h : wR_readSum Q l1 H G) : e3_Ev (wB L xs) 3 65 74 0 [(2, 14), (0, l1), (3, 0)] [] H G (e3_q0 Q) := by
  unfold wR_readSum at h
  refine e3_K [0, 0, 0, 0] 4 [(2, 14), (0, l1), (3, 0)] [(0, (e3_w32 (2 * l1))), (2, 14)] (H) (G) (wZ L xs) (M := tbM74) rfl rfl trivial ?_
  refine e3_call (o := 0) (k := 75) (M2 := tbM75) (f1 := 2) (w1 := 44) (as := [(2, 14), (0, (e3_w32 (2 * l1)))]) (rest := []) (M := tbM74) rfl rfl rfl trivial (Nat.le_of_ble_eq_true rfl) (Nat.le_of_ble_eq_true rfl) (Nat.le_of_ble_eq_true rfl) ?_
  refine e3_mono (sR_readTerm L xs _ _ _ _ h) (fun r H1 G2 h => ?_)
  obtain ⟨x3, rfl, h⟩ := h
  change e3_Ev _ _ _ _ 7 [(2, 14), (0, l1), (3, 0)] [(0, x3)] H1 G2 _
  refine e3_br (M := tbM74) rfl rfl rfl Iff.rfl (fun hc => ?_) (fun hc => ?_)
  · replace h := h.1 hc
    refine e3_K [0] 11 [(2, 14), (0, l1), (3, 0)] [(0, 0)] (H1) (G2) (wZ L xs) (M := tbM74) rfl rfl trivial ?_
    exact e3_retb (M := tbM74) rfl rfl rfl (Or.inl rfl) ⟨_, rfl, h⟩
  · replace h := h.2 hc
    refine e3_K [0, 4, 2, 0, 0, 0] 23 [(2, 14), (0, l1), (0, (H1 3 7))] [(0, 43), (0, (H1 3 7))] (H1) (G2) (wZ L xs) (M := tbM74) rfl rfl ⟨trivial, trivial, trivial⟩ ?_
    refine e3_br (M := tbM74) rfl rfl rfl Iff.rfl (fun hc => ?_) (fun hc => ?_)
    · replace h := h.1 hc
      exact sR_readSum_52 L xs Q _ _ _ _ h
    · replace h := h.2 hc
      refine e3_K [0, 0] 29 [(2, 14), (0, l1), (0, (H1 3 7))] [(0, 45), (0, (H1 3 7))] (H1) (G2) (wZ L xs) (M := tbM74) rfl rfl trivial ?_
      refine e3_br (M := tbM74) rfl rfl rfl Iff.rfl (fun hc => ?_) (fun hc => ?_)
      · replace h := h.1 hc
        exact sR_readSum_52 L xs Q _ _ _ _ h
      · replace h := h.2 hc
        refine e3_K [0, 0] 35 [(2, 14), (0, l1), (0, (H1 3 7))] [(0, 42), (0, (H1 3 7))] (H1) (G2) (wZ L xs) (M := tbM74) rfl rfl trivial ?_
        refine e3_br (M := tbM74) rfl rfl rfl Iff.rfl (fun hc => ?_) (fun hc => ?_)
        · replace h := h.1 hc
          exact sR_readSum_52 L xs Q _ _ _ _ h
        · replace h := h.2 hc
          refine e3_K [0, 0] 41 [(2, 14), (0, l1), (0, (H1 3 7))] [(0, 47), (0, (H1 3 7))] (H1) (G2) (wZ L xs) (M := tbM74) rfl rfl trivial ?_
          refine e3_br (M := tbM74) rfl rfl rfl Iff.rfl (fun hc => ?_) (fun hc => ?_)
          · replace h := h.1 hc
            exact sR_readSum_52 L xs Q _ _ _ _ h
          · replace h := h.2 hc
            refine e3_K [0, 0] 47 [(2, 14), (0, l1), (0, (H1 3 7))] [(0, 37), (0, (H1 3 7))] (H1) (G2) (wZ L xs) (M := tbM74) rfl rfl trivial ?_
            refine e3_br (M := tbM74) rfl rfl rfl Iff.rfl (fun hc => ?_) (fun hc => ?_)
            · replace h := h.1 hc
              exact sR_readSum_52 L xs Q _ _ _ _ h
            · replace h := h.2 hc
              refine e3_K [0] 51 [(2, 14), (0, l1), (0, (H1 3 7))] [(0, 1)] (H1) (G2) (wZ L xs) (M := tbM74) rfl rfl trivial ?_
              exact e3_retb (M := tbM74) rfl rfl rfl (Or.inr rfl) ⟨_, rfl, h⟩
