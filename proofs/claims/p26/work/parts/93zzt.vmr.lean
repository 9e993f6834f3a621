/-- a VALUE is put, in the reference -/
def mPt (l1 l2 l3 l6 c : Int) (p : Int → Int) (H K : e3_H) : Prop := K 40 109 = H 40 109 + 1 ∧ (∀ b k : Int, ¬ (b = 40 ∧ k = 109) → ¬ (128 ≤ b ∧ b ≤ 131 ∧ k = H 40 109) → ¬ (b = 132 ∧ 4 * H 40 109 ≤ k ∧ k < 4 * H 40 109 + c) → K b k = H b k) ∧ (K 128 (H 40 109) = l1 ∧ K 129 (H 40 109) = l2 ∧ K 130 (H 40 109) = l3 ∧ K 131 (H 40 109) = l6) ∧ ∀ i : Int, 0 ≤ i → i < c → K 132 (4 * H 40 109 + i) = p i
def mO (l1 l2 l3 l6 c : Int) (p : Int → Int) (H : e3_H) (x : Int) (K : e3_H) : Prop := (x = -3 ∧ ¬ (H 40 109 ≠ 160 ∧ l6 ≤ 60) ∧ K = H) ∨ (x = H 40 109 ∧ (H 40 109 ≠ 160 ∧ l6 ≤ 60) ∧ mPt l1 l2 l3 l6 c p H K)
section VMR
variable {Q : Int → e3_H → e3_G → Prop} {H : e3_H} {G : e3_G}
theorem nM_newValue (h : zMV H) (l1 l2 l3 : Int) (h4 : l1 ≠ 4) (hQ : ∀ x K, zMF H K → zMV K → mO l1 l2 l3 1 0 (fun _ => 0) H x K → Q x K G) : wM_newValue Q l1 l2 l3 H G := by
  obtain ⟨hc, h2, h3⟩ := id h
  by_cases a : H 40 109 = 160
  · exact brT a (hQ _ H (zMF_rf H) h (Or.inl ⟨rfl, fun z => z.1 a, rfl⟩))
  refine brF a ⟨by omega, fun H1 e1 => ?_⟩
  have c1 : H1 40 109 = H 40 109 := by rw [e1, e3_up_ne (ne_1 (by decide))]
  refine ⟨by omega, fun H3 e3 => ?_⟩
  have c3 : H3 40 109 = H 40 109 := by rw [e3, e3_up_ne (ne_1 (by decide))]; exact c1
  refine ⟨by omega, fun H5 e5 => ?_⟩
  have c5 : H5 40 109 = H 40 109 := by rw [e5, e3_up_ne (ne_1 (by decide))]; exact c3
  refine ⟨by omega, fun H7 e7 H9 e9 => ?_⟩
  have c7 : H7 40 109 = H 40 109 := by rw [e7, e3_up_ne (ne_1 (by decide))]; exact c5
  rw [c1] at e3
  rw [c3] at e5
  rw [c5] at e7
  rw [c7, e3_w32_id (by omega) (by omega)] at e9
  have c9 : H9 40 109 = H 40 109 + 1 := by rw [e9]; exact e3_up_self ..
  have old : ∀ b k : Int, ¬ (b = 40 ∧ k = 109) → ¬ (128 ≤ b ∧ b ≤ 131 ∧ k = H 40 109) → H9 b k = H b k := fun b k n1 n2 => by
    rw [e9, e3_up_ne n1, e7, e3_up_ne (fun z => n2 ⟨by omega, by omega, z.2⟩), e5, e3_up_ne (fun z => n2 ⟨by omega, by omega, z.2⟩), e3, e3_up_ne (fun z => n2 ⟨by omega, by omega, z.2⟩), e1, e3_up_ne (fun z => n2 ⟨by omega, by omega, z.2⟩)]
  have n128 : H9 128 (H 40 109) = l1 := by rw [e9, e3_up_ne (ne_1 (by decide)), e7, e3_up_ne (ne_1 (by decide)), e5, e3_up_ne (ne_1 (by decide)), e3, e3_up_ne (ne_1 (by decide)), e1]; exact e3_up_self ..
  have n129 : H9 129 (H 40 109) = l2 := by rw [e9, e3_up_ne (ne_1 (by decide)), e7, e3_up_ne (ne_1 (by decide)), e5, e3_up_ne (ne_1 (by decide)), e3]; exact e3_up_self ..
  have n130 : H9 130 (H 40 109) = l3 := by rw [e9, e3_up_ne (ne_1 (by decide)), e7, e3_up_ne (ne_1 (by decide)), e5]; exact e3_up_self ..
  have n131 : H9 131 (H 40 109) = 1 := by rw [e9, e3_up_ne (ne_1 (by decide)), e7]; exact e3_up_self ..
  rw [c9, e3_w32_id (by omega) (by omega), show H 40 109 + 1 - 1 = H 40 109 by omega]
  refine hQ _ H9 ⟨fun b k b0 b1 => old b k (fun z => b0 z.1) (by omega), fun k hk => old 40 k (fun z => hk z.2) (by omega), by omega⟩ ⟨by omega, fun i i0 i1 => by rw [old 132 i (ne_1 (by decide)) (by omega), c9]; have := h2 i i0 i1; omega, fun v v0 v1 => ?_⟩ (Or.inr ⟨rfl, ⟨a, by decide⟩, c9, fun b k z1 z2 _ => old b k z1 z2, ⟨n128, n129, n130, n131⟩, fun i i0 i1 => by omega⟩)
  by_cases z : v = H 40 109
  · subst z
    rw [n131, n128]
    exact ⟨by decide, fun y => absurd y h4⟩
  · obtain ⟨a1, a2⟩ := h3 v v0 (by omega)
    rw [old 131 v (ne_1 (by decide)) (by omega), old 128 v (ne_1 (by decide)) (by omega), old 129 v (ne_1 (by decide)) (by omega), old 40 10 (by decide) (by omega), c9]
    refine ⟨a1, fun y => ?_⟩
    obtain ⟨b1, b2, b3⟩ := a2 y
    rw [old 44 _ (ne_1 (by decide)) (by omega)]
    refine ⟨b1, fun i i0 i1 => ?_, ?_⟩
    · rw [old 132 _ (ne_1 (by decide)) (by omega)]
      have := b2 i i0 i1
      omega
    · rw [b3, zps_eq (K := H9) (H := H) _ (fun i hi => ⟨old 132 _ (ne_1 (by decide)) (by omega), old 131 _ (ne_1 (by decide)) (fun t => ?_)⟩)]
      have := b2 i (by omega) (by omega)
      omega
theorem nM_letters (h : zMV H) (l1 : Int) (hbad : (tS (tB l1) 8).1 ≠ 1 → Q (-1) H G) (hQ : (tS (tB l1) 8).1 = 1 → ∀ x K, zMF H K → zMV K → mO 2 (tS (tB l1) 8).2 l1 1 0 (fun _ => 0) H x K → Q x K G) : wM_letters Q l1 H G := by
  have key : ∀ (n : Nat) (l3 l4 l5 : Int), l5 = (n : Int) - 1 → n ≤ 8 → l3 = (tS (tB l1) (8 - n)).2 → l4 = (tS (tB l1) (8 - n)).1 → wM_letters_9 Q (n + 1) l1 l3 l4 l5 H G := by
    intro n
    induction n with
    | zero =>
      intro l3 l4 l5 h5 hn h3 h4
      rw [h3, h4]
      refine brT (by omega) ?_
      rcases tS_01 (tB l1) 8 with z | z
      · exact brT z (hbad (by omega))
      · exact brF (fun w => by have w : (tS (tB l1) 8).1 = 0 := w; omega) (nM_newValue h 2 _ _ (by decide) (fun x K f m o => hQ z x K f m o))
    | succ n ih =>
      intro l3 l4 l5 h5 hn h3 h4
      have e8 : 8 - n = 8 - (n + 1) + 1 := by omega
      have e7 : 7 - (8 - (n + 1)) = n := by omega
      have eb : e3_w32 (e3_land (e3_lshr l1 (e3_w32 (8 * l5))) 255) = tB l1 n := by
        have := x_lsh (x := l1) (k := n) (by omega)
        rw [show l5 = (n : Int) by omega]
        unfold tB
        rw [this, e3_w32_id (x := 8 * (n : Int)) (by omega) (by omega)]
      have s1 := tS_s (tB l1) (8 - (n + 1))
      have s2 := tS_n (tB l1) (8 - (n + 1))
      have rg := tS_rg (tB l1) (8 - (n + 1))
      rw [← e8, e7] at s1 s2
      rw [← h3, ← h4] at s1
      rw [← h3] at s2 rg
      refine brF (by omega) ?_
      rw [eb]
      clear eb
      generalize tB l1 n = c at s1 s2 ⊢
      have n68 : ∀ a b : Int, e3_w32 (l3 + b) = (tS (tB l1) (8 - n)).2 → a = (tS (tB l1) (8 - n)).1 → wM_letters_68 Q (fun l1 l3 l4 l5 H G => wM_letters_9 Q (n + 1) l1 l3 l4 l5 H G) l1 a l5 b l3 H G := fun a b g1 g2 => by
        show wM_letters_9 Q (n + 1) l1 (e3_w32 (l3 + b)) a (e3_w32 (l5 + (-1))) H G
        rw [e3_w32_id (x := l5 + (-1)) (by omega) (by omega)]
        exact ih _ _ _ (by omega) (by omega) g1 g2
      have n55 : ∀ a : Int, a = (tS (tB l1) (8 - n)).1 → wM_letters_55 Q (fun l1 l3 l4 l5 H G => wM_letters_9 Q (n + 1) l1 l3 l4 l5 H G) l1 l3 l5 c a H G := fun a g => by
        by_cases z : c = 0
        · rw [if_pos z] at s2
          exact brT z (n68 a 0 (by rw [e3_w32_id (by omega) (by omega)]; omega) g)
        · rw [if_neg z] at s2
          exact brF z (n68 a 1 (by rw [e3_w32_id (by omega) (by omega)]; omega) g)
      by_cases z4 : l4 = 0
      · refine brT z4 (n55 0 ?_)
        rw [s1, if_neg (fun y => by omega)]
      · have l41 : l4 = 1 := by
          rcases tS_01 (tB l1) (8 - (n + 1)) with y | y
          · omega
          · omega
        refine brF z4 (cM_isSmall (fun y => brF (by decide) (n55 1 ?_)) (fun y => brT rfl ?_))
        · have y2 : 97 ≤ c ∧ c ≤ 122 := by unfold x_sm at y; simpa using y
          rw [s1, if_pos ⟨l41, Or.inl y2⟩]
        · have y2 : ¬ (97 ≤ c ∧ c ≤ 122) := by
            intro w
            unfold x_sm at y
            simp at y
            omega
          by_cases c0 : c = 0
          · refine brT c0 ?_
            by_cases l0 : l3 = 0
            · refine brT l0 (n55 1 ?_)
              rw [s1, if_pos ⟨l41, Or.inr ⟨c0, l0⟩⟩]
            · refine brF l0 (n55 0 ?_)
              rw [s1, if_neg (fun w => w.2.elim y2 (fun v => l0 v.2))]
          · refine brF c0 (n55 0 ?_)
            rw [s1, if_neg (fun w => w.2.elim y2 (fun v => c0 v.1))]
  exact ⟨9, key 8 0 1 7 (by omega) (by omega) rfl rfl⟩
theorem nM_whole (h : zMV H) (l1 : Int) (hQ : ∀ x K, zMF H K → zMV K → mO 0 l1 0 1 0 (fun _ => 0) H x K → Q x K G) : wM_whole Q l1 H G := nM_newValue h 0 _ _ (by decide) hQ
theorem nM_nothing (h : zMV H) (hQ : ∀ x K, zMF H K → zMV K → mO 3 (-4) 0 1 0 (fun _ => 0) H x K → Q x K G) : wM_nothing Q H G := nM_newValue h 3 _ _ (by decide) hQ
theorem nM_truth (h : zMV H) (l1 : Int) (hQ : ∀ x K, zMF H K → zMV K → mO 1 (if l1 = 0 then 0 else 1) 0 1 0 (fun _ => 0) H x K → Q x K G) : wM_truth Q l1 H G := by
  by_cases a : l1 = 0
  · rw [if_pos a] at hQ
    exact brT a (nM_newValue h 1 _ _ (by decide) hQ)
  · rw [if_neg a] at hQ
    exact brF a (nM_newValue h 1 _ _ (by decide) hQ)
end VMR
