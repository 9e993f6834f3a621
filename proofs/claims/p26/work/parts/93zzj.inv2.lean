section JIE
variable {n : Nat} {H K : e3_H} {G : e3_G}
/-- both programs, behind what leaves texts and tapes -/
theorem JI_eq (h : JI n H G) (e1 : ∀ a k : Int, a < 26 ∨ 139 ≤ a → K a k = H a k) (e2 : ∀ a k : Int, 41 ≤ a → a ≤ 85 ∨ (99 ≤ a ∧ a ≤ 110) → K a k = H a k) (e3 : ∀ k : Int, k = 1 ∨ k = 9 ∨ k = 10 ∨ k = 16 ∨ k = 41 → K 40 k = H 40 k) (l : zLX K) (s : zSO K) (v : zMV K) (w : zMH K) : JI n K G := by
  obtain ⟨⟨h1, h2⟩, ⟨⟨h3, h4⟩, h5, h6⟩, _, _, hT⟩ := h
  have t4 : K 4 = H 4 := funext fun k => e1 4 k (by omega)
  have t41 : K 41 = H 41 := funext fun k => e2 41 k (by omega) (by omega)
  have ht := h1.2.2.1.1
  refine ⟨⟨MKR_k h1 ⟨[], (List.append_nil _).symm⟩ (e1 16 1 (by decide)) (e1 16 4 (by decide)) (fun x _ _ => e1 _ x (by omega)) (fun j => e1 1 j (by omega)), h2⟩, ⟨⟨by rw [e1 3 1 (by decide)]; exact h3, by rw [e3 1 (by decide)]; exact h4⟩, h5, by rw [t4, t41]; exact h6⟩, ⟨l, s⟩, ⟨v, w⟩, ?_⟩
  rw [e1 2 6 (by decide), e3 9 (by decide), e1 14 3 (by decide), e1 8 0 (by decide), e3 10 (by decide), e3 41 (by decide)]
  rcases hT with y | ⟨y1, y2, σ, g, m, nf, Vs, mr0, way, km, N, p1, p2, p3, p4, p5, p6⟩
  · exact Or.inl y
  · refine Or.inr ⟨y1, y2, σ, g, m, nf, Vs, mr0, way, km, N, p1, TX_lo p2 (fun a x ha => e1 a x (by omega)), p3, fun f hf => ?_, ?_, TRS_eq p6 (fun a k ha => e2 a k (by omega) (by omega))⟩
    · rw [e1 15 _ (by omega), e1 _ 7 (Or.inr (FY_fu (p2.2.2.1 f hf)).1)]
      exact p4 f hf
    · obtain ⟨t1, ⟨t2, t3⟩, t5⟩ := p5
      exact ⟨fun a k h3 h4 h5 => by rw [e2 a k (by omega) (by omega)]; exact t1 a k h3 h4 h5, ⟨by rw [e3 10 (by decide)]; exact t2, by rw [e3 16 (by decide)]; exact t3⟩, by rw [e3 41 (by decide)]; exact t5⟩
theorem JI_c (h : JI n H G) (f : zF 26 33 H K) (l : zLX K) : JI n K G := JI_eq h (fun a k ha => f a k (by omega)) (fun a k h1 h2 => f a k (by omega)) (fun k _ => f 40 k (by decide)) l (by unfold zSO; rw [f 34 9 (by decide), f 34 11 (by decide)]; exact h.2.2.1.2) (zMV_eq h.2.2.2.1.1 (fun a k h1 h2 => f a k (by omega)) (f 40 109 (by decide)) (by rw [f 40 10 (by decide)]; exact Int.le_refl _) (fun k _ _ => f 44 k (by decide))) (by unfold zMH; rw [f 40 109 (by decide), f 40 123 (by decide), f 40 128 (by decide)]; exact ⟨fun i i0 i1 => by rw [f 136 i (by omega)]; exact h.2.2.2.1.2.1 i i0 i1, h.2.2.2.1.2.2⟩)
theorem JI_s (h : JI n H G) (f : zF 34 39 H K) (s : zSO K) : JI n K G := JI_eq h (fun a k ha => f a k (by omega)) (fun a k h1 h2 => f a k (by omega)) (fun k _ => f 40 k (by decide)) (zLX_F h.2.2.1.1 f) s (zMV_eq h.2.2.2.1.1 (fun a k h1 h2 => f a k (by omega)) (f 40 109 (by decide)) (by rw [f 40 10 (by decide)]; exact Int.le_refl _) (fun k _ _ => f 44 k (by decide))) (by unfold zMH; rw [f 40 109 (by decide), f 40 123 (by decide), f 40 128 (by decide)]; exact ⟨fun i i0 i1 => by rw [f 136 i (by omega)]; exact h.2.2.2.1.2.1 i i0 i1, h.2.2.2.1.2.2⟩)
theorem JI_m (h : JI n H G) (f : zMF H K) (v : zMV K) : JI n K G := JI_eq h (fun a k ha => f.1 a k (by omega) (by omega)) (fun a k h1 h2 => f.1 a k (by omega) (by omega)) (fun k hk => f.2.1 k (by omega)) (zLX_eq h.2.2.1.1 (fun a k h1 h2 => f.1 a k (by omega) (by omega))) (by unfold zSO; rw [f.1 34 9 (by decide) (by decide), f.1 34 11 (by decide) (by decide)]; exact h.2.2.1.2) v (by
  obtain ⟨a, b⟩ := h.2.2.2.1.2
  have m := f.2.2
  unfold zMH
  rw [f.2.1 123 (by decide), f.2.1 128 (by decide)]
  refine ⟨fun i i0 i1 => ?_, b⟩
  rw [f.1 136 i (by decide) (by decide)]
  have := a i i0 i1
  omega)
theorem JI_r (h : JI n H G) (f : zR H K) (w : zMH K) : JI n K G := JI_eq h (fun a k ha => f.1 a k (by omega) (by omega)) (fun a k h1 h2 => f.1 a k (by omega) (by omega)) (fun k hk => f.2 k (by omega) (by omega)) (zLX_eq h.2.2.1.1 (fun a k h1 h2 => f.1 a k (by omega) (by omega))) (by unfold zSO; rw [f.1 34 9 (by decide) (by decide), f.1 34 11 (by decide) (by decide)]; exact h.2.2.1.2) (zMV_R h.2.2.2.1.1 f) w
end JIE
