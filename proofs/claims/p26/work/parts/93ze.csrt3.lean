section ZRN
variable {Q : Int → e3_H → e3_G → Prop} {R : e3_H → e3_G → Prop} {H H0 : e3_H} {G : e3_G} {fu a : Int}
theorem zJ_fill7 (hG : zGC G) (v : Int) (hf : zF 34 39 H0 H) (hs : zSO H) (hQ : ∀ K, zF 34 39 H0 K → zSO K → R K G) : wJ_fill_AII R 37 v H G := by
  have g7 := hG.2.2.2.1
  have key : ∀ (n : Nat) (l2 : Int) (K : e3_H), 0 ≤ l2 → l2 + n = 7 → zF 34 39 H0 K → zSO K → wJ_fill_AII_5 R (n + 1) 37 v l2 7 K G := by
    intro n
    induction n with
    | zero => intro l2 K g0 hn f s; exact brF (by omega) (hQ K f s)
    | succ n ih =>
      intro l2 K g0 hn f s
      refine brT (by omega) ⟨ga_oa g7 (by decide) (by omega), fun H1 e1 => ?_⟩
      rw [e1, e3_w32_id (by omega) (by omega)]
      exact ih (l2 + 1) _ (by omega) (by omega) (zF_up f (by decide)) (zSO_up s (Or.inl (by decide)))
  have e7 : e3_ln G 37 = 7 := ga_ln g7
  unfold wJ_fill_AII
  rw [e7]
  exact ⟨⟨by decide, by decide, 7, g7.2⟩, 8, key 7 0 H (by omega) (by omega) hf hs⟩
theorem zS_run (hG : zGC G) (hl : zLX H0) (hk : zKX H0) (hS : zSX H0 G) (hf : zF 34 39 H0 H) (hs : zSO H) (l1 l2 : Int) (hQ : ∀ x K, zF 34 39 H0 K → zSO K → Q x K G) : wS_run Q l1 l2 H G := by
  have key : ∀ (n : Nat) (l3 l4 : Int) (K : e3_H), 1 ≤ l4 → l4 + n = 101 → zF 34 39 H0 K → zSO K → wS_run_29 Q (n + 1) l2 l3 l4 K G := by
    intro n
    induction n with
    | zero => intro l3 l4 K g0 hn f s; exact brT (by omega) (zS_end _ _ s (fun K2 f2 s2 => hQ _ K2 (zF_tr f f2) s2))
    | succ n ih =>
      intro l3 l4 K g0 hn f s
      have n162 : ∀ (l3 l6 s0 : Int) (K : e3_H), zRU l6 H0 G → zF 34 39 H0 K → zSO K → wS_run_162 Q l3 l6 s0 1 K G := fun l3 l6 s0 K hr f s => by
        refine ⟨by decide, fun H1 e1 => ⟨ga_ob (c := 9) hr.1.2, fun H3 e3 => ?_⟩⟩
        rw [e3]
        exact hQ _ _ (by rw [e1]; exact zF_up (zF_up f (by decide)) (by decide)) (by rw [e1]; exact zSO_up (zSO_up s (Or.inl (by decide))) (Or.inl (by decide)))
      have n122 : ∀ (l3 l6 : Int) (K : e3_H), zRU l6 H0 G → zF 34 39 H0 K → zSO K → wS_run_122 Q (fun l2 l3 l4 H G => wS_run_29 Q (n + 1) l2 l3 l4 H G) l2 l3 l4 l6 K G := fun l3 l6 K hr f s => by
        have o := ga_ob (c := 9) hr.1.2
        refine ⟨o, ?_⟩
        by_cases c : K l6 11 = 2
        · refine brT c (zS_handOver hr f s (fun K2 f2 s2 => ?_))
          rw [e3_w32_id (by omega) (by omega)]
          exact ih _ (l4 + 1) K2 (by omega) (by omega) f2 s2
        · refine brF c ⟨o, ?_⟩
          by_cases d : K l6 11 = 1
          · exact brT d ⟨o, zS_numberHeld (zLX_F hl f) _ (fun x => n162 _ _ _ K hr f s)⟩
          · exact brF d ⟨o, n162 _ _ _ K hr f s⟩
      have n95 : ∀ (s0 : Int) (K : e3_H), (s0 < 0 ∨ zRU s0 H0 G) → zF 34 39 H0 K → zSO K → wS_run_95 Q (fun l2 l3 l4 H G => wS_run_29 Q (n + 1) l2 l3 l4 H G) l2 l3 l4 s0 K G := fun s0 K hr f s => by
        by_cases c : s0 < 0
        · exact brT c (hQ _ K f s)
        · rcases hr with z | hr
          · exact absurd z c
          refine brF c ?_
          by_cases d : l4 = 1
          · exact brT d ⟨ga_ob (c := 9) hr.1.2, zS_keepBound hG (zRU_F hr f) s (fun K2 f2 s2 => n122 _ _ K2 hr (zF_tr f f2) s2)⟩
          · exact brF d (n122 _ _ K hr f s)
      have hSK : zSX K G := zSX_eq hS (fun b k hb => f b k (by omega))
      refine brF (by omega) (zR_functionAt hSK _ (fun hx hfu => ?_) ?_)
      · intro H7 e7 H8 e8
        have f8 : zF 34 39 H0 H8 := by rw [e8, e7]; exact zF_up (zF_up f (by decide)) (by decide)
        have s8 : zSO H8 := by rw [e8, e7]; exact zSO_up (zSO_up s (Or.inl (by decide))) (Or.inl (by decide))
        generalize K 15 (K 34 5) = w at hfu
        have hu0 : zFU w H0 G := zFU_eq hfu (fun b k hb => (f b k (by omega)).symm)
        refine brF (by have := hfu.1.1; omega) ?_
        by_cases c : l2 = 0
        · exact brT c (zS_byRules hl hk hu0 f8 s8 (fun x K2 hx f2 s2 => n95 x K2 hx f2 s2))
        · exact brF c (zS_byTree hl hu0 f8 s8 (fun x K2 hx f2 s2 => n95 x K2 hx f2 s2))
      · intro H7 e7 H8 e8
        have f8 : zF 34 39 H0 H8 := by rw [e8, e7]; exact zF_up (zF_up f (by decide)) (by decide)
        have s8 : zSO H8 := by rw [e8, e7]; exact zSO_up (zSO_up s (Or.inl (by decide))) (Or.inl (by decide))
        exact brT (by decide) (n95 _ H8 (Or.inl (by decide)) f8 s8)
  refine zJ_fill7 hG 0 hf hs (fun K f s => ?_)
  intro H4 e4 H5 e5 H6 e6
  have s5 : zSO H5 := by
    refine ⟨?_, ?_⟩
    · rw [e5, e3_up_ne (ne_2 (by decide)), e4, e3_up_self]; decide
    · rw [e5, e3_up_self]; decide
  refine ⟨101, key 100 _ 1 H6 (by omega) (by omega) ?_ ?_⟩
  · rw [e6, e5, e4]; exact zF_up (zF_up (zF_up f (by decide)) (by decide)) (by decide)
  · rw [e6]; exact zSO_up s5 (by decide)
theorem zS_takes (hl : zLX H) (hk : zKX H) (hS : zSX H G) (hs : zSO H) (l1 l2 l3 l4 : Int) (hQ : ∀ x K, zF 34 39 H K → zSO K → Q x K G) : wS_takes Q l1 l2 l3 l4 H G := by
  refine zR_functionAt hS l1 (fun hx hfu => brF (by have := hfu.1.1; omega) ?_) (brT (by decide) (hQ _ H (zF_rf H) hs))
  intro H4 e4 H5 e5 H6 e6
  have f6 : zF 34 39 H H6 := by rw [e6, e5, e4]; exact zF_up (zF_up (zF_up (zF_rf H) (by decide)) (by decide)) (by decide)
  have s6 : zSO H6 := by rw [e6, e5, e4]; exact zSO_up (zSO_up (zSO_up hs (Or.inl (by decide))) (Or.inl (by decide))) (Or.inl (by decide))
  generalize H 15 l1 = w at hfu
  have hu := zFU_F hfu f6
  obtain ⟨h1, ⟨h2, h3, h4⟩, _⟩ := hu
  have key : ∀ (n : Nat) (l6 : Int), 0 ≤ l6 → l6 + n = 3 → wS_takes_42 Q (n + 1) w l6 H6 G := by
    intro n
    induction n with
    | zero => intro l6 g0 hn; exact ⟨ga_ob (c := 8) h1.2, brF (by omega) (hQ _ H6 f6 s6)⟩
    | succ n ih =>
      intro l6 g0 hn
      refine ⟨ga_ob (c := 8) h1.2, ?_⟩
      by_cases c : l6 < H6 w 1
      · refine brT c ⟨by omega, ga_ob (c := 8) h1.2, ga_oa h4 (by omega) (by omega), zL_isOf (zKX_F hk f6) (zLX_F hl f6) _ _ (fun _ => brF (by decide) ?_) (brT rfl (hQ _ H6 f6 s6))⟩
        rw [e3_w32_id (by omega) (by omega)]
        exact ih (l6 + 1) (by omega) (by omega)
      · exact brF c (hQ _ H6 f6 s6)
  exact ⟨4, key 3 0 (by omega) (by omega)⟩
theorem zP_sort (hG : zGC G) (hl : zLX H) (hk : zKX H) (hS : zSX H G) (hs : zSO H) (l1 l2 l3 l4 : Int) (hQ : ∀ x K, zF 34 39 H K → zSO K → Q x K G) : wP_sort Q l1 l2 l3 l4 H G := by
  refine zS_takes hl hk hS hs l1 l2 l3 l4 (fun x K f s => ?_)
  by_cases c : x = 0
  · exact brT c (hQ _ K f s)
  · exact brF c (zS_run hG hl hk hS f s l1 1 (fun y K2 f2 s2 => hQ y K2 f2 s2))
theorem zP_plain (hG : zGC G) (hl : zLX H) (hk : zKX H) (hS : zSX H G) (hs : zSO H) (l1 l2 l3 l4 : Int) (hQ : ∀ x K, zF 34 39 H K → zSO K → Q x K G) : wP_plain Q l1 l2 l3 l4 H G := by
  refine zS_takes hl hk hS hs l1 l2 l3 l4 (fun x K f s => ?_)
  by_cases c : x = 0
  · exact brT c (hQ _ K f s)
  · exact brF c (zS_run hG hl hk hS f s l1 0 (fun y K2 f2 s2 => hQ y K2 f2 s2))
theorem zP_told (l1 : Int) (hQ : ∀ x, Q x H G) : wP_told Q l1 H G := by
  by_cases a : l1 < 0
  · exact brT a (hQ _)
  · refine brF a ?_
    by_cases b : l1 < 7
    · exact brT b ⟨by omega, hQ _⟩
    · exact brF b (hQ _)
theorem zP_guard (hs : zSO H) (l1 : Int) (hQ : ∀ x, Q x H G) : wP_guard Q l1 H G := by
  have := hs.1
  by_cases a : l1 < 0
  · exact brT a (hQ _)
  · refine brF a ?_
    by_cases b : l1 < H 34 9
    · exact brT b ⟨by omega, hQ _⟩
    · exact brF b (hQ _)
theorem zP_bound (hs : zSO H) (l1 : Int) (hQ : ∀ x, Q x H G) : wP_bound Q l1 H G := by
  have := hs.2
  by_cases a : l1 < 0
  · exact brT a (hQ _)
  · refine brF a ?_
    by_cases b : l1 < H 34 11
    · exact brT b ⟨by omega, hQ _⟩
    · exact brF b (hQ _)
theorem zP_count (l1 : Int) (hQ : ∀ x, Q x H G) : wP_count Q l1 H G := ⟨fun _ => hQ _, fun _ => hQ _, fun _ => hQ _, fun _ => hQ _, fun _ => hQ _, fun _ => hQ _⟩
theorem zP_kindNamed (hk : zKX H) (l1 : Int) (hQ : ∀ x, Q x H G) : wP_kindNamed Q l1 H G := by
  have hb := hk.1
  have fin : ∀ x, ((x : Int) < 0 → wP_kindNamed_19 Q (-4) H G) ∧ (¬ x < 0 → wP_kindNamed_19 Q x H G) := fun x => ⟨fun _ => hQ _, fun _ => hQ _⟩
  have key : ∀ (n : Nat) (l3 : Int), 0 ≤ l3 → l3 + n = 24 → wK_find_2 (fun x3 H1 G2 => (((x3 : Int) < 0 → (wP_kindNamed_19 Q (-4) H1 G2)) ∧ (¬ ((x3 : Int) < 0) → (wP_kindNamed_19 Q x3 H1 G2)))) (n + 1) l1 l3 H G := by
    intro n
    induction n with
    | zero => intro l3 g0 hn; exact brF (by omega) (fin _)
    | succ n ih =>
      intro l3 g0 hn
      by_cases a : l3 < H 8 0
      · refine brT a ⟨by omega, ?_⟩
        by_cases b : H 9 l3 = l1
        · exact brT b (fin _)
        · refine brF b ?_
          rw [e3_w32_id (by omega) (by omega)]
          exact ih (l3 + 1) (by omega) (by omega)
      · exact brF a (fin _)
  exact ⟨25, key 24 0 (by omega) (by omega)⟩
theorem zK_has (l1 : Int) (h1 : 0 ≤ l1 ∧ l1 < H 8 0 → Q 1 H G) (h0 : Q 0 H G) : wK_has Q l1 H G := by
  by_cases a : l1 < 0
  · exact brT a ⟨Or.inl rfl, h0⟩
  · refine brF a ?_
    by_cases b : l1 < H 8 0
    · exact brT b ⟨Or.inr rfl, h1 ⟨by omega, b⟩⟩
    · exact brF b ⟨Or.inl rfl, h0⟩
theorem zP_kind (hk : zKX H) (hS : zSX H G) (l1 l2 : Int) (hQ : ∀ x, Q x H G) : wP_kind Q l1 l2 H G := by
  have hb := hk.1
  refine zK_has l1 (fun hx => brF (by decide) ?_) (brT rfl (hQ _))
  by_cases a : l2 < 0
  · exact brT a (hQ _)
  refine brF a ?_
  by_cases b : 7 < l2
  · exact brT b (hQ _)
  refine brF b ?_
  by_cases c : l2 = 7
  · refine brT c (zR_functionAt hS 0 (fun hz hfu => brF (by have := hfu.1.1; omega) ⟨ga_ob (c := 8) hfu.1.2, ga_ob (c := 5) hfu.2.2.2.2.2.1.2.1, fun _ => hQ _, fun _ => hQ _⟩) (brT (by decide) (hQ _)))
  · exact brF c ⟨fun _ => ⟨by omega, fun _ => hQ _, fun _ => ⟨by omega, hQ _⟩⟩, fun _ => ⟨by omega, fun _ => hQ _, fun _ => hQ _⟩, fun _ => ⟨by omega, hQ _⟩, fun _ => zK_partSort hk _ _ (fun x => hQ _)⟩
theorem zP_function (hS : zSX H G) (l1 l2 : Int) (hQ : ∀ x, Q x H G) : wP_function Q l1 l2 H G := by
  refine zR_functionAt hS l1 (fun hz hfu => brF (by have := hfu.1.1; omega) ?_) (brT (by decide) (hQ _))
  by_cases a : l2 < 0
  · exact brT a (hQ _)
  refine brF a ?_
  by_cases b : 8 < l2
  · exact brT b (hQ _)
  have o := ga_ob (c := 8) hfu.1.2
  have o5 := ga_ob (c := 5) hfu.2.2.2.2.2.1.2.1
  obtain ⟨h2, h3, h4⟩ := hfu.2.1
  refine brF b ⟨o, fun _ => ⟨o, hQ _⟩, fun _ => ⟨o, hQ _⟩, fun _ => ⟨o, hQ _⟩, fun _ => ⟨o, o5, hQ _⟩, fun _ => ⟨o, o5, hQ _⟩, fun _ => ⟨o, o5, hQ _⟩, fun _ => ?_⟩
  rw [e3_w32_id (by omega) (by omega)]
  refine ⟨fun _ => hQ _, fun c => ⟨o, fun d => ⟨o, ga_oa h4 (by omega) (by omega), hQ _⟩, fun _ => hQ _⟩⟩
theorem zP_node (hS : zSX H G) (l1 l2 l3 : Int) (hQ : ∀ x, Q x H G) : wP_node Q l1 l2 l3 H G := by
  refine zR_functionAt hS l1 (fun hz hfu => brF (by have := hfu.1.1; omega) ?_) (brT (by decide) (hQ _))
  have o := ga_ob (c := 8) hfu.1.2
  obtain ⟨⟨q, q0, ⟨p1, q1⟩, ⟨p2, q2⟩, ⟨p3, q3⟩, ⟨p4, q4⟩, ⟨p5, q5⟩, ⟨p6, q6⟩⟩, t2, t3⟩ := id hfu.2.2.2.2.2
  have o5 := ga_ob (c := 5) q0
  refine ⟨o, o5, zE_has q0 l2 (fun hx => brF (by decide) ?_) (brT rfl (hQ _))⟩
  by_cases a : l3 < 0
  · exact brT a (hQ _)
  refine brF a ?_
  by_cases b : 4 < l3
  · exact brT b (hQ _)
  have i1 : e3_oa G 0 (H (H (H 15 l1) 10) 4) l2 := by rw [p1]; exact ga_oa q1 (by omega) (by omega)
  have i2 : e3_oa G 0 (H (H (H 15 l1) 10) 5) l2 := by rw [p2]; exact ga_oa q2 (by omega) (by omega)
  have i3 : e3_oa G 0 (H (H (H 15 l1) 10) 6) l2 := by rw [p3]; exact ga_oa q3 (by omega) (by omega)
  have i4 : e3_oa G 0 (H (H (H 15 l1) 10) 7) l2 := by rw [p4]; exact ga_oa q4 (by omega) (by omega)
  have n18 : ∀ s0, wF_tellNode_18 (fun x10 H8 G9 => Q x10 H8 G9) (H 15 l1) l2 l3 s0 H G := fun s0 =>
    ⟨fun _ => ⟨o, o5, i1, hQ _⟩, fun _ => ⟨o, o5, i2, o, zF_rowAt hfu _ (fun _ hR => brF (by have := hR.1.1; omega) ⟨ga_ob (c := 11) hR.1.2, ga_ob (c := 9) hR.2.1.1.2, hQ _⟩) (brT (by decide) (hQ _))⟩, fun _ => ⟨o, o5, i4, hQ _⟩, fun _ => ⟨fun _ => hQ _, fun _ => ⟨o, o5, i3, o, zF_placeDepth hfu _ (fun x => hQ _)⟩⟩, fun _ => ⟨fun _ => hQ _, fun _ => ⟨o, o5, i3, o, zF_placeNumber hfu _ (fun x => hQ _)⟩⟩⟩
  exact brF b ⟨o, o, o5, i1, fun _ => n18 _, fun _ => n18 _⟩
theorem zE_behind {t : Int} (h : zTR t H G) (l1 l2 : Int) (h2 : l2 ≤ 1000) (hQ : ∀ x, Q x H G) : wE_behind Q t l1 l2 H G := by
  obtain ⟨⟨q, q0, _, _, _, _, ⟨p5, q5⟩, _⟩, t2, t3⟩ := h
  have key : ∀ (n : Nat) (l3 l4 : Int), 0 ≤ l4 → l4 + n = 1000 → wE_behind_7 Q (n + 1) t l2 l3 l4 H G := by
    intro n
    induction n with
    | zero => intro l3 l4 g0 hn; exact brF (by omega) (hQ _)
    | succ n ih =>
      intro l3 l4 g0 hn
      by_cases c : l4 < l2
      · refine brT c ⟨ga_ob (c := 5) q0, zE_has q0 l3 (fun hx => brF (by decide) ⟨ga_ob (c := 5) q0, by rw [p5]; exact ga_oa q5 (by omega) (by omega), ?_⟩) (brT rfl (hQ _))⟩
        rw [e3_w32_id (x := l4 + 1) (by omega) (by omega)]
        exact ih _ (l4 + 1) (by omega) (by omega)
      · exact brF c (hQ _)
  exact ⟨1001, key 1000 _ 0 (by omega) (by omega)⟩
theorem zP_branch (hS : zSX H G) (l1 l2 l3 : Int) (hQ : ∀ x, Q x H G) : wP_branch Q l1 l2 l3 H G := by
  refine zR_functionAt hS l1 (fun hz hfu => brF (by have := hfu.1.1; omega) ?_) (brT (by decide) (hQ _))
  have o := ga_ob (c := 8) hfu.1.2
  have hT := hfu.2.2.2.2.2
  obtain ⟨⟨q, q0, ⟨p1, q1⟩, ⟨p2, q2⟩, ⟨p3, q3⟩, ⟨p4, q4⟩, ⟨p5, q5⟩, ⟨p6, q6⟩⟩, t2, t3⟩ := id hT
  have o5 := ga_ob (c := 5) q0
  refine ⟨o, o5, zE_has q0 l2 (fun hx => brF (by decide) ?_) (brT rfl (hQ _))⟩
  have h4 := t3 l2 hx.1 hx.2
  by_cases a : l3 < 0
  · exact brT a (hQ _)
  refine brF a ⟨o, o5, by rw [p4]; exact ga_oa q4 (by omega) (by omega), fun c => ⟨o, o5, zE_behind hT _ _ (by rw [p4] at c; omega) (fun x => hQ _)⟩, fun _ => hQ _⟩
end ZRN
