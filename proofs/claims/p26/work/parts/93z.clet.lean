/-- KINDS, as far as safety goes -/
def zKX (H : e3_H) : Prop := (0 ≤ H 8 0 ∧ H 8 0 ≤ 24) ∧ ∀ k : Int, 0 ≤ k → k < H 8 0 → 0 ≤ H 12 k ∧ H 12 k ≤ 4
/-- VALUES of the class -/
def zLX (H : e3_H) : Prop := (0 ≤ H 26 1 ∧ H 26 1 ≤ 160) ∧ (∀ i : Int, 0 ≤ i → i < 640 → 0 ≤ H 31 i ∧ H 31 i < 160) ∧ ∀ i : Int, 0 ≤ i → i < 160 → 0 ≤ H 30 i ∧ H 30 i ≤ 4
/-- tags of the class's own arrays -/
def zGC (G : e3_G) : Prop := g_at G 31 (0, 640) ∧ g_at G 33 (0, 4) ∧ g_at G 36 (0, 8) ∧ g_at G 37 (0, 7) ∧ g_at G 39 (0, 8)
section CLT
variable {Q : Int → e3_H → e3_G → Prop} {H : e3_H} {G : e3_G} {v l1 l2 : Int}
theorem zK_isOrUnder (h : zKX H) (l1 l2 : Int) (hQ : ∀ x, (x = 0 ∨ x = 1) → Q x H G) : wK_isOrUnder Q l1 l2 H G := by
  have key : ∀ (n d : Nat) (l3 : Int), n + d = 24 → wK_isOrUnder_5 Q (n + 1) l2 l3 d H G := by
    intro n
    induction n with
    | zero =>
      intro d l3 hd
      exact brF (by omega) (hQ 0 (Or.inl rfl))
    | succ n ih =>
      intro d l3 hd
      refine brT (by omega) ?_
      by_cases h0 : l3 < 0
      · exact brT h0 (hQ 0 (Or.inl rfl))
      · refine brF h0 ?_
        by_cases h1 : l3 < H 8 0
        · refine brT h1 ?_
          by_cases h2 : l3 = l2
          · exact brT h2 (hQ 1 (Or.inr rfl))
          · refine brF h2 ⟨⟨by omega, by have := h.1; omega⟩, ?_⟩
            rw [w_p1 (by omega)]
            exact ih (d + 1) _ (by omega)
        · exact brF h1 (hQ 0 (Or.inl rfl))
  exact ⟨25, key 24 0 l1 rfl⟩
theorem zK_partCount (h : zKX H) (l1 : Int) (hQ : ∀ x, 0 ≤ x ∧ x ≤ 4 → ((0 < x → 0 ≤ l1 ∧ l1 < H 8 0)) → Q x H G) : wK_partCount Q l1 H G := by
  by_cases h0 : l1 < 0
  · exact brT h0 (hQ 0 (by omega) (by omega))
  · refine brF h0 ?_
    by_cases h1 : l1 < H 8 0
    · have := h.1
      have h2 := h.2 l1 (by omega) h1
      exact brT h1 ⟨by omega, hQ _ h2 (fun _ => by omega)⟩
    · exact brF h1 (hQ 0 (by omega) (by omega))
theorem zK_partSort (h : zKX H) (l1 l2 : Int) (hQ : ∀ x, Q x H G) : wK_partSort Q l1 l2 H G := by
  by_cases h0 : l2 < 0
  · exact brT h0 (hQ _)
  · refine brF h0 (zK_partCount h l1 (fun x hx hx2 => ?_))
    by_cases h1 : l2 < x
    · have := hx2 (by omega)
      have h3 := h.1
      refine brT h1 ?_
      rw [e3_w32_id (x := l1 * 4) (by omega) (by omega), e3_w32_id (by omega) (by omega)]
      exact ⟨by omega, hQ _⟩
    · exact brF h1 (hQ _)
theorem zL_has (l1 : Int) (h1 : 0 ≤ l1 ∧ l1 < H 26 1 → Q 1 H G) (h0 : Q 0 H G) : wL_has Q l1 H G := by
  by_cases a : l1 < 0
  · exact brT a ⟨Or.inl rfl, h0⟩
  · refine brF a ?_
    by_cases b : l1 < H 26 1
    · exact brT b ⟨Or.inr rfl, h1 ⟨by omega, b⟩⟩
    · exact brF b ⟨Or.inl rfl, h0⟩
theorem zL_isOf (hk : zKX H) (h : zLX H) (l1 l2 : Int) (h1 : 0 ≤ l1 ∧ l1 < H 26 1 → Q 1 H G) (h0 : Q 0 H G) : wL_isOf Q l1 l2 H G := by
  have hl := h.1
  refine zL_has l1 (fun hl1 => brF (by decide) ?_) (brT rfl h0)
  by_cases a : l2 < 3
  · refine brT a ⟨by omega, ?_⟩
    by_cases b : H 27 l1 = l2
    · exact brT b ⟨Or.inr rfl, h1 hl1⟩
    · exact brF b ⟨Or.inl rfl, h0⟩
  · refine brF a ⟨by omega, ?_⟩
    by_cases b : H 27 l1 = 3
    · exact brT b ⟨Or.inr rfl, h1 hl1⟩
    · refine brF b ⟨by omega, ?_⟩
      by_cases c : H 27 l1 = 4
      · refine brT c ⟨by omega, zK_isOrUnder hk _ _ (fun x hx => ?_)⟩
        rcases hx with z | z
        · exact brT z ⟨Or.inl rfl, h0⟩
        · exact brF (by rw [z]; decide) ⟨Or.inr rfl, h1 hl1⟩
      · exact brF c ⟨Or.inl rfl, h0⟩
theorem zL_part (h : zLX H) (l1 l2 : Int) (hQ : ∀ x, Q x H G) : wL_part Q l1 l2 H G := by
  have n0 : wL_part_30 Q l1 l2 H G := brT rfl (hQ _)
  by_cases a : l1 < 0
  · exact brT a n0
  · refine brF a ?_
    by_cases b : l1 < H 26 1
    · refine brT b ?_
      by_cases c : l2 < 0
      · exact brT c n0
      · have := h.1
        have h3 := h.2.2 l1 (by omega) (by omega)
        refine brF c ⟨by omega, ?_⟩
        by_cases d : l2 < H 30 l1
        · refine brT d (brF (by decide) ?_)
          rw [e3_w32_id (x := l1 * 4) (by omega) (by omega), e3_w32_id (by omega) (by omega)]
          exact ⟨by omega, hQ _⟩
        · exact brF d n0
    · exact brF b n0
theorem zL_like (h : zLX H) (l1 l2 : Int) (h1 : 0 ≤ l1 ∧ l1 < 160) (h2 : 0 ≤ l2 ∧ l2 < 160) (hQ : ∀ x, Q x H G) : wL_haveLikeParts Q l1 l2 H G := by
  have h30 := h.2.2 l1 h1.1 h1.2
  have key : ∀ (n : Nat) (l3 : Int), 0 ≤ l3 → l3 + n = 4 → wL_haveLikeParts_2 Q (n + 1) l1 l2 l3 H G := by
    intro n
    induction n with
    | zero => intro l3 h0 hn; exact ⟨h1, brF (by omega) (hQ _)⟩
    | succ n ih =>
      intro l3 h0 hn
      refine ⟨h1, ?_⟩
      by_cases a : l3 < H 30 l1
      · refine brT a ?_
        rw [e3_w32_id (x := l1 * 4) (by omega) (by omega), e3_w32_id (x := l1 * 4 + l3) (by omega) (by omega), e3_w32_id (x := l2 * 4) (by omega) (by omega), e3_w32_id (x := l2 * 4 + l3) (by omega) (by omega)]
        refine ⟨by omega, h.2.1 _ (by omega) (by omega), by omega, h.2.1 _ (by omega) (by omega), ?_⟩
        by_cases b : H 32 (H 31 (l1 * 4 + l3)) = H 32 (H 31 (l2 * 4 + l3))
        · refine brT b ?_
          rw [e3_w32_id (by omega) (by omega)]
          exact ih (l3 + 1) (by omega) (by omega)
        · exact brF b (hQ _)
      · exact brF a (hQ _)
  exact ⟨5, key 4 0 (by omega) (by omega)⟩
theorem zL_firstLike (h : zLX H) (l1 : Int) (h1 : 0 ≤ l1 ∧ l1 < 160) (hQ : ∀ x, Q x H G) : wL_firstLike Q l1 H G := by
  have key : ∀ (n : Nat) (l2 : Int), 0 ≤ l2 → l2 + n = l1 → wL_firstLike_2 Q (n + 1) l1 l2 H G := by
    intro n
    induction n with
    | zero => intro l2 h0 hn; exact brF (by omega) (hQ _)
    | succ n ih =>
      intro l2 h0 hn
      have nx : wL_firstLike_49 Q (fun l1 l2 H G => wL_firstLike_2 Q (n + 1) l1 l2 H G) l1 l2 H G := by
        show wL_firstLike_2 Q (n + 1) l1 (e3_w32 (l2 + 1)) H G
        rw [e3_w32_id (by omega) (by omega)]
        exact ih (l2 + 1) (by omega) (by omega)
      refine brT (by omega) ⟨by omega, h1, ?_⟩
      by_cases a : H 27 l2 = H 27 l1
      · refine brT a ⟨by omega, h1, ?_⟩
        by_cases b : H 28 l2 = H 28 l1
        · refine brT b (zL_like h l2 l1 (by omega) h1 (fun x => ?_))
          by_cases c : x = 0
          · exact brT c nx
          · exact brF c (hQ _)
        · exact brF b nx
      · exact brF a nx
  exact ⟨l1.toNat + 1, key l1.toNat 0 (by omega) (by omega)⟩
end CLT
