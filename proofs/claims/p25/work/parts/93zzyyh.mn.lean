/-- all that is visited fits -/
def afit (σ M : e3_H) (V : List (Int × Int)) : Prop := ∀ p, p ∈ V → fitv σ M p.1 (vt M p.2)
/-- the least way of a chain has every figure least -/
theorem mnC {R : Int → Int → Int → List (Int × Int) → Prop} {σ M : e3_H} {c : Int} {l : List Int} {x w1 w2 : Int} {V1 V2 : List (Int × Int)} (hp : 1 ≤ wp σ l) (h1 : R c w1 x V1) (m1 : ∀ (w' : Int) (V' : List (Int × Int)), 0 ≤ w' → w' < w1 → R c w' x V' → ¬ afit σ M V') (h2 : lyC R σ l w2 (x + 1) V2) (m2 : ∀ (w' : Int) (V' : List (Int × Int)), 0 ≤ w' → w' < w2 → lyC R σ l w' (x + 1) V' → ¬ afit σ M V') (b2 : 0 ≤ w2 ∧ w2 < wp σ l) : lyC R σ (c :: l) (w1 * wp σ l + w2) x (V1 ++ V2) ∧ ∀ (w' : Int) (V' : List (Int × Int)), 0 ≤ w' → w' < w1 * wp σ l + w2 → lyC R σ (c :: l) w' x V' → ¬ afit σ M V' := by
  have d1 : (w1 * wp σ l + w2) / wp σ l = w1 := by rw [Int.add_comm, Int.add_mul_ediv_right _ _ (by omega), Int.ediv_eq_zero_of_lt b2.1 b2.2, Int.zero_add]
  have d2 : (w1 * wp σ l + w2) % wp σ l = w2 := by
    have := Int.mul_ediv_add_emod (w1 * wp σ l + w2) (wp σ l)
    rw [d1, Int.mul_comm] at this
    omega
  refine ⟨⟨V1, V2, rfl, by rw [d1]; exact h1, by rw [d2]; exact h2⟩, fun w' V' w0 wl h ha => ?_⟩
  obtain ⟨U1, U2, e, u1, u2⟩ := h
  have a1 : afit σ M U1 := fun p hp => ha p (by rw [e]; exact List.mem_append_left _ hp)
  have a2 : afit σ M U2 := fun p hp => ha p (by rw [e]; exact List.mem_append_right _ hp)
  have hq := Int.mul_ediv_add_emod w' (wp σ l)
  rw [Int.mul_comm] at hq
  have q0 : 0 ≤ w' / wp σ l := Int.ediv_nonneg w0 (by omega)
  have r0 := Int.emod_nonneg w' (show wp σ l ≠ 0 by omega)
  have r1 := Int.emod_lt_of_pos w' (show 0 < wp σ l by omega)
  have g1 : w1 ≤ w' / wp σ l := by
    by_cases z : w' / wp σ l < w1
    · exact absurd a1 (m1 _ _ q0 z u1)
    · omega
  by_cases z : w' / wp σ l = w1
  · rw [z] at hq
    exact m2 _ _ r0 (by omega) u2 a2
  · have h3 : (w1 + 1) * wp σ l ≤ w' / wp σ l * wp σ l := Int.mul_le_mul_of_nonneg_right (by omega) (by omega)
    rw [Int.add_mul, Int.one_mul] at h3
    omega
/-- and where nothing of the first, or of the rest, fits, nothing of the chain does -/
theorem mnC0 {R : Int → Int → Int → List (Int × Int) → Prop} {σ M : e3_H} {c : Int} {l : List Int} {x W : Int} (hp : 1 ≤ wp σ l) (h : (∀ (w' : Int) (V' : List (Int × Int)), 0 ≤ w' → w' < W → R c w' x V' → ¬ afit σ M V') ∨ (∀ (w' : Int) (V' : List (Int × Int)), 0 ≤ w' → w' < wp σ l → lyC R σ l w' (x + 1) V' → ¬ afit σ M V')) : ∀ (w' : Int) (V' : List (Int × Int)), 0 ≤ w' → w' < W * wp σ l → lyC R σ (c :: l) w' x V' → ¬ afit σ M V' := fun w' V' w0 wl hh ha => by
  obtain ⟨U1, U2, e, u1, u2⟩ := hh
  have a1 : afit σ M U1 := fun p hp => ha p (by rw [e]; exact List.mem_append_left _ hp)
  have a2 : afit σ M U2 := fun p hp => ha p (by rw [e]; exact List.mem_append_right _ hp)
  rcases h with h | h
  · exact h _ _ (Int.ediv_nonneg w0 (by omega)) (Int.ediv_lt_of_lt_mul (by omega) wl) u1 a1
  · exact h _ _ (Int.emod_nonneg w' (by omega)) (Int.emod_lt_of_pos w' (by omega)) u2 a2
