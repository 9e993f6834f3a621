/-- KINDS of the reference, as far as safety goes -/
def zMK (H : e3_H) : Prop := ∃ m : Nat, m ≤ 24 ∧ H 40 10 = (m : Int) ∧ a_up (H 43) m ∧ ∀ k : Int, 0 ≤ k → k < m → 0 ≤ H 44 k ∧ H 44 k ≤ 4
/-- the sizes of parts together -/
def zps (H : e3_H) (v : Int) : Nat → Int
  | 0 => 0
  | i + 1 => zps H v i + H 131 (H 132 (4 * v + i))
/-- VALUES of the reference -/
def zMV (H : e3_H) : Prop := (0 ≤ H 40 109 ∧ H 40 109 ≤ 160) ∧ (∀ i : Int, 0 ≤ i → i < 640 → 0 ≤ H 132 i ∧ (H 132 i < H 40 109 ∨ H 132 i = 0)) ∧ ∀ v : Int, 0 ≤ v → v < H 40 109 → (1 ≤ H 131 v ∧ H 131 v ≤ 60) ∧ (H 128 v = 4 → (0 ≤ H 129 v ∧ H 129 v < H 40 10) ∧ (∀ i : Int, 0 ≤ i → i < H 44 (H 129 v) → 0 ≤ H 132 (4 * v + i) ∧ H 132 (4 * v + i) < H 40 109) ∧ H 131 v = 1 + zps H v (H 44 (H 129 v)).toNat)
theorem zps_eq {H K : e3_H} {v : Int} : ∀ n : Nat, (∀ i : Nat, i < n → K 132 (4 * v + i) = H 132 (4 * v + i) ∧ K 131 (H 132 (4 * v + i)) = H 131 (H 132 (4 * v + i))) → zps K v n = zps H v n := by
  intro n
  induction n with
  | zero => intro _; rfl
  | succ n ih =>
    intro e
    show zps K v n + K 131 (K 132 (4 * v + n)) = zps H v n + H 131 (H 132 (4 * v + n))
    rw [ih (fun i hi => e i (by omega)), (e n (by omega)).1, (e n (by omega)).2]
theorem zMV_eq {H K : e3_H} (h : zMV H) (e : ∀ a k : Int, 128 ≤ a → a ≤ 132 → K a k = H a k) (e9 : K 40 109 = H 40 109) (e10 : H 40 10 ≤ K 40 10) (e44 : ∀ k : Int, 0 ≤ k → k < H 40 10 → K 44 k = H 44 k) : zMV K := by
  obtain ⟨h1, h2, h3⟩ := h
  refine ⟨by rw [e9]; exact h1, fun i i0 i1 => by rw [e 132 i (by decide) (by decide), e9]; exact h2 i i0 i1, fun v v0 v1 => ?_⟩
  rw [e9] at v1
  obtain ⟨a, b⟩ := h3 v v0 v1
  rw [e 131 v (by decide) (by decide), e 128 v (by decide) (by decide), e 129 v (by decide) (by decide), e9]
  refine ⟨a, fun h4 => ?_⟩
  obtain ⟨b1, b2, b3⟩ := b h4
  rw [e44 _ b1.1 b1.2]
  refine ⟨by omega, fun i i0 i1 => by rw [e 132 _ (by decide) (by decide)]; exact b2 i i0 i1, ?_⟩
  rw [b3, zps_eq (K := K) (H := H) _ (fun i _ => ⟨e 132 _ (by decide) (by decide), e 131 _ (by decide) (by decide)⟩)]
/-- parts are VALUES that are there, or nothing is -/
theorem zMV_132 {H : e3_H} (h : zMV H) (i : Int) (h0 : 0 ≤ i) (h1 : i < 640) : 0 ≤ H 132 i ∧ H 132 i < 160 := by
  have a := h.1
  have b := h.2.1 i h0 h1
  omega
theorem zMK_eq {H K : e3_H} (h : zMK H) (e : ∀ a k : Int, a = 43 ∨ a = 44 → K a k = H a k) (e10 : K 40 10 = H 40 10) : zMK K := by
  obtain ⟨m, h1, h2, h3, h4⟩ := h
  have e43 : K 43 = H 43 := funext fun k => e 43 k (Or.inl rfl)
  exact ⟨m, h1, by rw [e10]; exact h2, by rw [e43]; exact h3, fun k k0 k1 => by rw [e 44 k (Or.inr rfl)]; exact h4 k k0 k1⟩
/-- what VALUES of the reference may change -/
def zMF (H K : e3_H) : Prop := (∀ a k : Int, a ≠ 40 → a < 128 ∨ 134 < a → K a k = H a k) ∧ (∀ k : Int, k ≠ 109 → K 40 k = H 40 k) ∧ H 40 109 ≤ K 40 109
theorem zMF_rf (H : e3_H) : zMF H H := ⟨fun _ _ _ _ => rfl, fun _ _ => rfl, Int.le_refl _⟩
section ZMV
variable {Q : Int → e3_H → e3_G → Prop} {H : e3_H} {G : e3_G}
theorem zM_isValue (h : zMV H) (l1 : Int) (h1 : 0 ≤ l1 ∧ l1 < H 40 109 → Q 1 H G) (h0 : Q 0 H G) : wM_isValue Q l1 H G := by
  have hc := h.1
  refine cM_in (fun a b => ⟨Or.inr rfl, h1 ?_⟩) (fun _ => ⟨Or.inl rfl, h0⟩)
  rw [e3_w32_id (by omega) (by omega)] at b
  omega
theorem zM_isOf (hk : zMK H) (l1 l2 : Int) (hl : 0 ≤ l1 ∧ l1 < H 40 10) (hQ : ∀ x, (x = 0 ∨ x = 1) → Q x H G) : wM_isOf Q l1 l2 H G := by
  obtain ⟨m, h1, h2, h3, h4⟩ := hk
  have key : ∀ (n : Nat) (l3 : Int), l3 < n → l3 < m → wM_isOf_2 Q (n + 1) l2 l3 H G := by
    intro n
    induction n with
    | zero => intro l3 hn hm; exact brT (by omega) ⟨fun _ => ⟨Or.inr rfl, hQ _ (Or.inr rfl)⟩, fun _ => ⟨Or.inl rfl, hQ _ (Or.inl rfl)⟩⟩
    | succ n ih =>
      intro l3 hn hm
      by_cases a : l3 < 0
      · exact brT a ⟨fun _ => ⟨Or.inr rfl, hQ _ (Or.inr rfl)⟩, fun _ => ⟨Or.inl rfl, hQ _ (Or.inl rfl)⟩⟩
      refine brF a ?_
      by_cases b : l3 = l2
      · exact brT b ⟨fun _ => ⟨Or.inr rfl, hQ _ (Or.inr rfl)⟩, fun _ => ⟨Or.inl rfl, hQ _ (Or.inl rfl)⟩⟩
      refine brF b ⟨by omega, ?_⟩
      have hu := h3 l3.toNat (by omega)
      rw [show ((l3.toNat : Nat) : Int) = l3 by omega] at hu
      exact ih _ (by omega) (by omega)
  exact ⟨m + 1, key m l1 (by omega) (by omega)⟩
theorem zM_isOfSort (hk : zMK H) (h : zMV H) (l1 l2 : Int) (hl : 0 ≤ l1 ∧ l1 < H 40 109) (hQ : ∀ x, (x = 0 ∨ x = 1) → Q x H G) : wM_isOfSort Q l1 l2 H G := by
  have hc := h.1
  have y : ((1 : Int) = 0 ∨ (1 : Int) = 1) ∧ Q 1 H G := ⟨Or.inr rfl, hQ 1 (Or.inr rfl)⟩
  have n : ((0 : Int) = 0 ∨ (0 : Int) = 1) ∧ Q 0 H G := ⟨Or.inl rfl, hQ 0 (Or.inl rfl)⟩
  refine ⟨fun _ => ⟨by omega, fun _ => y, fun _ => n⟩, fun _ => ⟨by omega, fun _ => y, fun _ => ⟨by omega, fun h4 => ⟨by omega, ?_⟩, fun _ => n⟩⟩⟩
  have := ((h.2.2 l1 hl.1 hl.2).2 h4).1
  exact zM_isOf hk _ _ this (fun x _ => ⟨fun _ => n, fun _ => y⟩)
/-- a new VALUE that is no leaf -/
theorem zM_newValue (h : zMV H) (l1 l2 l3 : Int) (h4 : l1 ≠ 4) (hQ : ∀ x K, zMF H K → zMV K → Q x K G) : wM_newValue Q l1 l2 l3 H G := by
  obtain ⟨hc, h2, h3⟩ := id h
  by_cases a : H 40 109 = 160
  · exact brT a (hQ _ H (zMF_rf H) h)
  refine brF a ⟨by omega, fun H1 e1 => ?_⟩
  have c1 : H1 40 109 = H 40 109 := by rw [e1, e3_up_ne (ne_1 (by decide))]
  refine ⟨by omega, fun H3 e3 => ?_⟩
  have c3 : H3 40 109 = H 40 109 := by rw [e3, e3_up_ne (ne_1 (by decide))]; exact c1
  refine ⟨by omega, fun H5 e5 => ?_⟩
  have c5 : H5 40 109 = H 40 109 := by rw [e5, e3_up_ne (ne_1 (by decide))]; exact c3
  refine ⟨by omega, fun H7 e7 H9 e9 => ?_⟩
  have c7 : H7 40 109 = H 40 109 := by rw [e7, e3_up_ne (ne_1 (by decide))]; exact c5
  rw [c1] at e3
  rw [c3] at e5
  rw [c5] at e7
  rw [c7, e3_w32_id (by omega) (by omega)] at e9
  have c9 : H9 40 109 = H 40 109 + 1 := by rw [e9]; exact e3_up_self ..
  have old : ∀ b k : Int, ¬ (b = 40 ∧ k = 109) → ¬ (128 ≤ b ∧ b ≤ 131 ∧ k = H 40 109) → H9 b k = H b k := fun b k n1 n2 => by
    rw [e9, e3_up_ne n1, e7, e3_up_ne (fun z => n2 ⟨by omega, by omega, z.2⟩), e5, e3_up_ne (fun z => n2 ⟨by omega, by omega, z.2⟩), e3, e3_up_ne (fun z => n2 ⟨by omega, by omega, z.2⟩), e1, e3_up_ne (fun z => n2 ⟨by omega, by omega, z.2⟩)]
  have n128 : H9 128 (H 40 109) = l1 := by rw [e9, e3_up_ne (ne_1 (by decide)), e7, e3_up_ne (ne_1 (by decide)), e5, e3_up_ne (ne_1 (by decide)), e3, e3_up_ne (ne_1 (by decide)), e1]; exact e3_up_self ..
  have n131 : H9 131 (H 40 109) = 1 := by rw [e9, e3_up_ne (ne_1 (by decide)), e7]; exact e3_up_self ..
  refine hQ _ H9 ⟨fun b k b0 b1 => old b k (fun z => b0 z.1) (by omega), fun k hk => old 40 k (fun z => hk z.2) (by omega), by omega⟩ ⟨by omega, fun i i0 i1 => by rw [old 132 i (ne_1 (by decide)) (by omega), c9]; have := h2 i i0 i1; omega, fun v v0 v1 => ?_⟩
  by_cases z : v = H 40 109
  · subst z
    rw [n131, n128]
    exact ⟨by decide, fun y => absurd y h4⟩
  · obtain ⟨a1, a2⟩ := h3 v v0 (by omega)
    rw [old 131 v (ne_1 (by decide)) (by omega), old 128 v (ne_1 (by decide)) (by omega), old 129 v (ne_1 (by decide)) (by omega), old 40 10 (by decide) (by omega), c9]
    refine ⟨a1, fun y => ?_⟩
    obtain ⟨b1, b2, b3⟩ := a2 y
    rw [old 44 _ (ne_1 (by decide)) (by omega)]
    refine ⟨b1, fun i i0 i1 => ?_, ?_⟩
    · rw [old 132 _ (ne_1 (by decide)) (by omega)]
      have := b2 i i0 i1
      omega
    · rw [b3, zps_eq (K := H9) (H := H) _ (fun i hi => ⟨old 132 _ (ne_1 (by decide)) (by omega), old 131 _ (ne_1 (by decide)) (fun t => ?_)⟩)]
      have := b2 i (by omega) (by omega)
      omega
theorem zM_letters (h : zMV H) (l1 : Int) (hQ : ∀ x K, zMF H K → zMV K → Q x K G) : wM_letters Q l1 H G := by
  have key : ∀ (n : Nat) (l3 l4 l5 : Int), l5 = (n : Int) - 1 → n ≤ 8 → wM_letters_9 Q (n + 1) l1 l3 l4 l5 H G := by
    intro n
    induction n with
    | zero =>
      intro l3 l4 l5 h5 hn
      refine brT (by omega) ⟨fun _ => hQ _ H (zMF_rf H) h, fun _ => zM_newValue h 2 _ _ (by decide) (fun x K f m => hQ x K f m)⟩
    | succ n ih =>
      intro l3 l4 l5 h5 hn
      have n68 : ∀ a b c, wM_letters_68 Q (fun l1 l3 l4 l5 H G => wM_letters_9 Q (n + 1) l1 l3 l4 l5 H G) l1 a l5 b c H G := fun a b c => by
        show wM_letters_9 Q (n + 1) l1 _ a (e3_w32 (l5 + (-1))) H G
        rw [e3_w32_id (x := l5 + (-1)) (by omega) (by omega)]
        exact ih _ _ _ (by omega) (by omega)
      have n55 : ∀ a b c, wM_letters_55 Q (fun l1 l3 l4 l5 H G => wM_letters_9 Q (n + 1) l1 l3 l4 l5 H G) l1 a l5 b c H G := fun a b c => ⟨fun _ => n68 _ _ _, fun _ => n68 _ _ _⟩
      refine brF (by omega) ⟨fun _ => n55 _ _ _, fun _ => cM_isSmall (fun _ => brF (by decide) (n55 _ _ _)) (fun _ => brT rfl ⟨fun _ => ⟨fun _ => n55 _ _ _, fun _ => n55 _ _ _⟩, fun _ => n55 _ _ _⟩)⟩
  exact ⟨9, key 8 0 1 7 (by omega) (by omega)⟩
theorem zM_value (h : zMV H) (hk : zMK H) (l1 l2 : Int) (hQ : ∀ x, Q x H G) : wM_value Q l1 l2 H G := by
  have hc := h.1
  refine zM_isValue h l1 (fun hl => brF (by decide) (cM_in (fun a b => brF (by decide) ?_) (fun _ => brT rfl (hQ _)))) (brT rfl (hQ _))
  refine ⟨fun _ => ⟨by omega, hQ _⟩, fun _ => ⟨by omega, hQ _⟩, fun _ => ⟨by omega, hQ _⟩, fun c => ⟨by omega, fun h4 => ⟨by omega, ?_⟩, fun _ => hQ _⟩⟩
  obtain ⟨m, k1, k2, _, _⟩ := hk
  have := ((h.2.2 l1 hl.1 hl.2).2 h4).1
  rw [e3_w32_id (x := l2 - 3) (by omega) (by omega), e3_w32_id (x := 4 * l1) (by omega) (by omega), e3_w32_id (x := 4 * l1 + l2) (by omega) (by omega), e3_w32_id (x := 4 * l1 + l2 - 3) (by omega) (by omega)]
  exact ⟨by omega, fun _ => ⟨by omega, hQ _⟩, fun _ => hQ _⟩
end ZMV
