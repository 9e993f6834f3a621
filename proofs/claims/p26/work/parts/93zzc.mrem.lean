def mvd (l3 v : Int) : Int := if v = -4 then -4 else e3_w32 (v + l3)
theorem zM_moved {Q : Int → e3_H → e3_G → Prop} {H : e3_H} {G : e3_G} {v l3 : Int} (h : Q (mvd l3 v) H G) : wM_moved Q v l3 H G := by
  unfold mvd at h
  refine ⟨fun z => ?_, fun z => ?_⟩
  · rw [if_pos z] at h; exact h
  · rw [if_neg z] at h; exact h
/-- a node was copied -/
def zCp (s d l3 : Int) (K K2 : e3_H) : Prop := (∀ a k : Int, ¬ (102 ≤ a ∧ a ≤ 114 ∧ k = d) → K2 a k = K a k) ∧ (∀ a : Int, 102 ≤ a → a ≤ 106 → K2 a d = K a s) ∧ K2 107 d = mvd l3 (K 107 s) ∧ K2 108 d = mvd l3 (K 108 s) ∧ K2 110 d = mvd l3 (K 110 s)
section ZRM
variable {Q : Int → e3_H → e3_G → Prop} {G : e3_G}
theorem zM_r49 {n : Nat} {f l2 : Int} (hf : 0 ≤ f ∧ f < 12) (hn : n ≤ 120) {H : e3_H} (h99 : H 99 12 = (n : Int)) (hQ : ∀ K, (∀ a k : Int, ¬ (102 ≤ a ∧ a ≤ 114 ∧ 300 * f ≤ k ∧ k < 300 * f + n) → ¬ (99 ≤ a ∧ a ≤ 101 ∧ k = f) → K a k = H a k) → K 99 f = (n : Int) → (∀ j : Nat, j < n → (∀ a : Int, 102 ≤ a → a ≤ 106 → K a (300 * f + j) = H a (3600 + j)) ∧ K 107 (300 * f + j) = mvd (300 * (f - 12)) (H 107 (3600 + j)) ∧ K 108 (300 * f + j) = mvd (300 * (f - 12)) (H 108 (3600 + j)) ∧ K 110 (300 * f + j) = mvd (300 * (f - 12)) (H 110 (3600 + j))) → (K 100 f = l2 ∧ K 101 f = H 40 10) → Q (n : Int) K G) : ∃ n, wM_remake_49 Q n f l2 (e3_w32 (300 * (e3_w32 (f - 12)))) 0 H G := by
  have el : e3_w32 (300 * (e3_w32 (f - 12))) = 300 * (f - 12) := by rw [e3_w32_id (x := f - 12) (by omega) (by omega), e3_w32_id (by omega) (by omega)]
  rw [el]
  have key : ∀ (d j : Nat) (K : e3_H), j + d = n → (∀ a k : Int, ¬ (102 ≤ a ∧ a ≤ 114 ∧ 300 * f ≤ k ∧ k < 300 * f + j) → K a k = H a k) → (∀ i : Nat, i < j → (∀ a : Int, 102 ≤ a → a ≤ 106 → K a (300 * f + i) = H a (3600 + i)) ∧ K 107 (300 * f + i) = mvd (300 * (f - 12)) (H 107 (3600 + i)) ∧ K 108 (300 * f + i) = mvd (300 * (f - 12)) (H 108 (3600 + i)) ∧ K 110 (300 * f + i) = mvd (300 * (f - 12)) (H 110 (3600 + i))) → wM_remake_49 Q (d + 1) f l2 (300 * (f - 12)) j K G := by
    intro d
    induction d with
    | zero =>
      intro j K hj hK hC
      have hj : j = n := hj
      subst hj
      have r13 : (0 : Int) ≤ f ∧ f < 13 := by omega
      have k99 : K 99 12 = (j : Int) := by rw [hK 99 12 (by omega)]; exact h99
      refine brF (by rw [k99]; omega) ⟨r13, fun H46 e46 => ⟨r13, fun H48 e48 => ⟨r13, fun H50 e50 => ⟨r13, ?_⟩⟩⟩⟩
      have v99 : H50 99 f = (j : Int) := by rw [e50, e3_up_ne (ne_1 (by decide)), e48, e3_up_ne (ne_1 (by decide)), e46, e3_up_self]; exact k99
      have a50 : ∀ a k : Int, ¬ (99 ≤ a ∧ a ≤ 101 ∧ k = f) → H50 a k = K a k := fun a k h => by rw [e50, e3_up_ne (fun z => h (by omega)), e48, e3_up_ne (fun z => h (by omega)), e46, e3_up_ne (fun z => h (by omega))]
      rw [v99]
      refine hQ H50 (fun a k h1 h2 => ?_) v99 (fun i hi => ?_) ⟨by rw [e50, e3_up_ne (ne_1 (by decide)), e48]; exact e3_up_self .., by rw [e50, e3_up_self, e48, e3_up_ne (ne_1 (by decide)), e46, e3_up_ne (ne_1 (by decide))]; exact hK 40 10 (by omega)⟩
      · rw [a50 a k h2]; exact hK a k h1
      · obtain ⟨c1, c2, c3, c4⟩ := hC i hi
        exact ⟨fun a a1 a2 => by rw [a50 a _ (by omega)]; exact c1 a a1 a2, by rw [a50 107 _ (by omega)]; exact c2, by rw [a50 108 _ (by omega)]; exact c3, by rw [a50 110 _ (by omega)]; exact c4⟩
    | succ d ih =>
      intro j K hj hK hC
      have es : e3_w32 (3600 + (j : Int)) = 3600 + j := e3_w32_id (by omega) (by omega)
      have ed : e3_w32 (3600 + (j : Int) + 300 * (f - 12)) = 300 * f + j := by rw [e3_w32_id (by omega) (by omega)]; omega
      have rs : (0 : Int) ≤ 3600 + j ∧ 3600 + (j : Int) < 3900 := by omega
      have rd : (0 : Int) ≤ 300 * f + j ∧ 300 * f + (j : Int) < 3900 := by omega
      have hne : (3600 : Int) + j ≠ 300 * f + j := by omega
      refine brT (by rw [hK 99 12 (by omega), h99]; omega) ?_
      rw [es, ed]
      refine ⟨rs, rd, fun H1 e1 => ⟨rs, rd, fun H4 e4 => ⟨rs, rd, fun H7 e7 => ⟨rs, rd, fun H10 e10 => ⟨rs, rd, fun H13 e13 => ⟨rs, zM_moved ⟨rd, fun H20 e20 => ⟨rs, zM_moved ⟨rd, fun H26 e26 => ⟨rs, zM_moved ⟨rd, fun H32 e32 => ⟨rs, rd, fun H34 e34 => ⟨rs, rd, fun H37 e37 => ⟨rs, rd, fun H40 e40 => ⟨rs, rd, fun H43 e43 => ?_⟩⟩⟩⟩⟩⟩⟩⟩⟩⟩⟩⟩⟩⟩⟩
      rw [w_p1 (by omega)]
      have s4 : H1 103 (3600 + (j : Int)) = K 103 (3600 + (j : Int)) := by rw [e1, e3_up_ne (ne_1 (by decide))]
      have s7 : H4 104 (3600 + (j : Int)) = K 104 (3600 + (j : Int)) := by rw [e4, e3_up_ne (ne_1 (by decide)), e1, e3_up_ne (ne_1 (by decide))]
      have s10 : H7 105 (3600 + (j : Int)) = K 105 (3600 + (j : Int)) := by rw [e7, e3_up_ne (ne_1 (by decide)), e4, e3_up_ne (ne_1 (by decide)), e1, e3_up_ne (ne_1 (by decide))]
      have s13 : H10 106 (3600 + (j : Int)) = K 106 (3600 + (j : Int)) := by rw [e10, e3_up_ne (ne_1 (by decide)), e7, e3_up_ne (ne_1 (by decide)), e4, e3_up_ne (ne_1 (by decide)), e1, e3_up_ne (ne_1 (by decide))]
      have a13 : ∀ a k : Int, ¬ (102 ≤ a ∧ a ≤ 106) → H13 a k = K a k := fun a k h => by rw [e13, e3_up_ne (fun z => h (by omega)), e10, e3_up_ne (fun z => h (by omega)), e7, e3_up_ne (fun z => h (by omega)), e4, e3_up_ne (fun z => h (by omega)), e1, e3_up_ne (fun z => h (by omega))]
      have s20 : H13 107 (3600 + (j : Int)) = K 107 (3600 + (j : Int)) := a13 107 _ (by omega)
      have s26 : H20 108 (3600 + (j : Int)) = K 108 (3600 + (j : Int)) := by rw [e20, e3_up_ne (ne_1 (by decide))]; exact a13 108 _ (by omega)
      have s32 : H26 110 (3600 + (j : Int)) = K 110 (3600 + (j : Int)) := by rw [e26, e3_up_ne (ne_1 (by decide)), e20, e3_up_ne (ne_1 (by decide))]; exact a13 110 _ (by omega)
      rw [s4] at e4
      rw [s7] at e7
      rw [s10] at e10
      rw [s13] at e13
      rw [s20] at e20
      rw [s26] at e26
      rw [s32] at e32
      have a43 : ∀ a k : Int, ¬ (111 ≤ a ∧ a ≤ 114) → H43 a k = H32 a k := fun a k h => by rw [e43, e3_up_ne (fun z => h (by omega)), e40, e3_up_ne (fun z => h (by omega)), e37, e3_up_ne (fun z => h (by omega)), e34, e3_up_ne (fun z => h (by omega))]
      have a32 : ∀ a k : Int, ¬ (a = 107 ∨ a = 108 ∨ a = 110) → H32 a k = H13 a k := fun a k h => by rw [e32, e3_up_ne (fun z => h (by omega)), e26, e3_up_ne (fun z => h (by omega)), e20, e3_up_ne (fun z => h (by omega))]
      have oth : ∀ a k : Int, k ≠ 300 * f + j → H43 a k = K a k := fun a k h => by rw [e43, e3_up_ne (ne_2 h), e40, e3_up_ne (ne_2 h), e37, e3_up_ne (ne_2 h), e34, e3_up_ne (ne_2 h), e32, e3_up_ne (ne_2 h), e26, e3_up_ne (ne_2 h), e20, e3_up_ne (ne_2 h), e13, e3_up_ne (ne_2 h), e10, e3_up_ne (ne_2 h), e7, e3_up_ne (ne_2 h), e4, e3_up_ne (ne_2 h), e1, e3_up_ne (ne_2 h)]
      have hsrc : ∀ a : Int, K a (3600 + (j : Int)) = H a (3600 + (j : Int)) := fun a => hK a _ (by omega)
      refine ih (j + 1) H43 (by omega) (fun a k h => ?_) (fun i hi => ?_)
      · by_cases z : k = 300 * f + j
        · have h2 : ¬ (102 ≤ a ∧ a ≤ 114) := fun t => h (by omega)
          rw [a43 a k (by omega), a32 a k (by omega), a13 a k (by omega)]
          exact hK a k (by omega)
        · rw [oth a k z]; exact hK a k (by omega)
      · by_cases z : i = j
        · subst z
          refine ⟨fun a a1 a2 => ?_, ?_, ?_, ?_⟩
          · rw [a43 a _ (by omega), a32 a _ (by omega), ← hsrc a]
            have hc : a = 102 ∨ a = 103 ∨ a = 104 ∨ a = 105 ∨ a = 106 := by omega
            rcases hc with t | t | t | t | t <;> subst t
            · rw [e13, e3_up_ne (ne_1 (by decide)), e10, e3_up_ne (ne_1 (by decide)), e7, e3_up_ne (ne_1 (by decide)), e4, e3_up_ne (ne_1 (by decide)), e1, e3_up_self]
            · rw [e13, e3_up_ne (ne_1 (by decide)), e10, e3_up_ne (ne_1 (by decide)), e7, e3_up_ne (ne_1 (by decide)), e4, e3_up_self]
            · rw [e13, e3_up_ne (ne_1 (by decide)), e10, e3_up_ne (ne_1 (by decide)), e7, e3_up_self]
            · rw [e13, e3_up_ne (ne_1 (by decide)), e10, e3_up_self]
            · rw [e13, e3_up_self]
          · rw [a43 107 _ (by decide), e32, e3_up_ne (ne_1 (by decide)), e26, e3_up_ne (ne_1 (by decide)), e20, e3_up_self, hsrc]
          · rw [a43 108 _ (by decide), e32, e3_up_ne (ne_1 (by decide)), e26, e3_up_self, hsrc]
          · rw [a43 110 _ (by decide), e32, e3_up_self, hsrc]
        · obtain ⟨c1, c2, c3, c4⟩ := hC i (by omega)
          exact ⟨fun a a1 a2 => by rw [oth a _ (by omega)]; exact c1 a a1 a2, by rw [oth 107 _ (by omega)]; exact c2, by rw [oth 108 _ (by omega)]; exact c3, by rw [oth 110 _ (by omega)]; exact c4⟩
  exact ⟨n + 1, key n 0 H (by omega) (fun _ _ _ => rfl) (fun i hi => absurd hi (Nat.not_lt_zero _))⟩
/-- a tree that was copied has its shape -/
theorem zTN_cp {f : Int} {n : Nat} {H K : e3_H} (hf : 0 ≤ f ∧ f < 12) (h : zTN f 3600 n H) (e68 : K 68 f = H 68 f) (e70 : K 70 f = H 70 f) (e74 : ∀ r : Int, K 74 r = H 74 r) (e78 : ∀ r : Int, K 78 r = H 78 r) (hC : ∀ j : Nat, j < n → (∀ a : Int, 102 ≤ a → a ≤ 106 → K a (300 * f + j) = H a (3600 + j)) ∧ K 107 (300 * f + j) = mvd (300 * (f - 12)) (H 107 (3600 + j)) ∧ K 108 (300 * f + j) = mvd (300 * (f - 12)) (H 108 (3600 + j)) ∧ K 110 (300 * f + j) = mvd (300 * (f - 12)) (H 110 (3600 + j))) : zTN f (300 * f) n K := by
  obtain ⟨h1, h2⟩ := h
  have mv1 : ∀ i : Nat, i < n → mvd (300 * (f - 12)) (3600 + (i : Int)) = 300 * f + i := fun i hi => by
    unfold mvd
    rw [if_neg (by omega), e3_w32_id (by omega) (by omega)]; omega
  have chain : ∀ (L : List Int) (a : Int), mch H a L → (∀ c, c ∈ L → ∃ i : Nat, i < n ∧ c = 3600 + i) → mch K (mvd (300 * (f - 12)) a) (L.map (fun c => c + 300 * (f - 12))) := by
    intro L
    induction L with
    | nil =>
      intro a hm _
      have hm : a = -4 := hm
      show mvd _ a = -4
      unfold mvd
      rw [if_pos hm]
    | cons x l ih =>
      intro a hm hc
      obtain ⟨m1, m2⟩ := hm
      obtain ⟨i, i1, i2⟩ := hc x (List.mem_cons_self ..)
      have ex : mvd (300 * (f - 12)) a = x + 300 * (f - 12) := by rw [m1, i2, mv1 i i1]; omega
      refine ⟨ex, ?_⟩
      have := ih _ m2 (fun c hc' => hc c (List.mem_cons_of_mem _ hc'))
      rw [i2] at this ⊢
      rw [← (hC i i1).2.2.2] at this
      show mch K (K 110 (3600 + (i : Int) + 300 * (f - 12))) _
      rw [show 3600 + (i : Int) + 300 * (f - 12) = 300 * f + i by omega]
      exact this
  refine ⟨h1, fun j hj => ?_⟩
  obtain ⟨a1, ⟨L, c1, c2, c3⟩, a3, a4, a5⟩ := h2 j hj
  obtain ⟨d1, d2, d3, d4⟩ := hC j hj
  rw [d2, d3, d1 106 (by decide) (by decide), d1 105 (by decide) (by decide), d1 102 (by decide) (by decide), d1 103 (by decide) (by decide), d1 104 (by decide) (by decide), e68, e70, e74, e78]
  refine ⟨?_, ⟨L.map (fun c => c + 300 * (f - 12)), chain L _ c1 (fun c hc => ?_), by rw [List.length_map]; exact c2, fun c hc => ?_⟩, a3, a4, a5⟩
  · rcases a1 with z | ⟨i, i1, i2⟩
    · left; rw [z]; rfl
    · right; exact ⟨i, i1, by rw [i2, mv1 i (by omega)]⟩
  · obtain ⟨i, i1, i2⟩ := c3 c hc
    exact ⟨i, i1.2, i2⟩
  · obtain ⟨c', h1', h2'⟩ := List.mem_map.mp hc
    obtain ⟨i, i1, i2⟩ := c3 c' h1'
    exact ⟨i, i1, by rw [← h2', i2]; omega⟩
/-- a tree that was copied has its nodes -/
theorem RTa_cp {f : Int} {R : a_RW} {N : List a_ND} {H K : e3_H} (hf : 0 ≤ f ∧ f < 12) (hn : N.length ≤ 120) (h : RTa 3600 R N H) (hC : ∀ j : Nat, j < N.length → (∀ a : Int, 102 ≤ a → a ≤ 106 → K a (300 * f + j) = H a (3600 + j)) ∧ K 107 (300 * f + j) = mvd (300 * (f - 12)) (H 107 (3600 + j)) ∧ K 108 (300 * f + j) = mvd (300 * (f - 12)) (H 108 (3600 + j)) ∧ K 110 (300 * f + j) = mvd (300 * (f - 12)) (H 110 (3600 + j))) : RTa (300 * f) R N K := by
  have chain : ∀ (L : List Nat) (a : Int), (∀ c, c ∈ L → c < N.length) → mch H a (L.map (fun (c : Nat) => 3600 + (c : Int))) → mch K (mvd (300 * (f - 12)) a) (L.map (fun (c : Nat) => 300 * f + (c : Int))) := by
    intro L
    induction L with
    | nil =>
      intro a _ hm
      have hm : a = -4 := hm
      show mvd _ a = -4
      unfold mvd
      rw [if_pos hm]
    | cons x l ih =>
      intro a hc hm
      obtain ⟨m1, m2⟩ := hm
      have m1 : a = 3600 + (x : Int) := m1
      have m2 : mch H (H 110 (3600 + (x : Int))) (l.map (fun (c : Nat) => 3600 + (c : Int))) := m2
      have hx := hc x (List.mem_cons_self ..)
      refine ⟨?_, ?_⟩
      · show mvd (300 * (f - 12)) a = 300 * f + (x : Int)
        unfold mvd
        rw [m1, if_neg (by omega), e3_w32_id (by omega) (by omega)]
        omega
      · show mch K (K 110 (300 * f + (x : Int))) (l.map (fun (c : Nat) => 300 * f + (c : Int)))
        rw [(hC x hx).2.2.2]
        exact ih _ (fun c hc' => hc c (List.mem_cons_of_mem _ hc')) m2
  intro j d hj
  obtain ⟨c1, c2, c3, c4⟩ := hC j (List.getElem?_eq_some_iff.mp hj).1
  obtain ⟨h1, h2, h3, h4, h5, h6, h7⟩ := h j d hj
  rw [c1 102 (by decide) (by decide), c1 103 (by decide) (by decide), c1 105 (by decide) (by decide), c1 106 (by decide) (by decide), c3]
  exact ⟨h1, h2, h3, h4, h5, chain _ _ h7 h6, h7⟩
end ZRM
