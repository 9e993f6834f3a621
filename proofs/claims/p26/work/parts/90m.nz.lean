theorem lor_nz {x y : Int} (hy : 1 ≤ y ∧ y ≤ 127) : e3_lor x y ≠ 0 := by
  intro h
  have h : ((Int64.ofInt x).toBitVec ||| (Int64.ofInt y).toBitVec).toInt = (0#64).toInt := h
  have h2 := congrArg BitVec.toNat (BitVec.eq_of_toInt_eq h)
  have e2 : (Int64.ofInt y).toBitVec = BitVec.ofInt 64 y := rfl
  rw [BitVec.toNat_or, e2, BitVec.toNat_ofInt] at h2
  have g2 : (y % ((2 ^ 64 : Nat) : Int)).toNat = y.toNat := by omega
  rw [g2] at h2
  have h3 : (Int64.ofInt x).toBitVec.toNat ||| y.toNat = 0 := h2
  have h4 : y.toNat ≤ (Int64.ofInt x).toBitVec.toNat ||| y.toNat := Nat.right_le_or
  omega
theorem an_127 {x : Int} (h : x_an x = true ∨ x_sm x = true ∨ x_up x = true) : 1 ≤ x ∧ x ≤ 127 := by
  unfold x_an x_sm x_fg x_up at h
  simp only [Bool.or_eq_true, Bool.and_eq_true, decide_eq_true_eq] at h
  omega
/-- a NAME's worth is not 0 -/
theorem wo_nz {t : Int → Int} {n i : Nat} (h : x_ty t n i = 258) : x_wo t n i ≠ 0 := by
  unfold x_ty at h
  unfold x_wo
  generalize x_sp t n i = p at h ⊢
  unfold x_tk at h ⊢
  by_cases h1 : n ≤ p
  · rw [if_pos h1] at h; simp at h
  · rw [if_neg h1] at h ⊢
    by_cases h2 : x_sm (t p) = true ∨ x_up (t p) = true
    · rw [if_pos h2] at h ⊢
      by_cases h3 : 8 < x_sc x_an t n n (p + 1) - p
      · rw [if_pos h3] at h; simp at h
      · rw [if_neg h3]
        have hge := x_sc_ge x_an t n n (p + 1)
        have hall := x_sc_all x_an t n n (p + 1)
        generalize x_sc x_an t n n (p + 1) = e at hge hall ⊢
        obtain ⟨k, hk⟩ : ∃ k, e - p = k + 1 := ⟨e - p - 1, by omega⟩
        show x_pk t p (e - p) ≠ 0
        rw [hk]
        refine lor_nz (an_127 ?_)
        by_cases hz : k = 0
        · rw [hz]; exact Or.inr h2
        · exact Or.inl (hall (p + k) (by omega) (by omega)).2
    · rw [if_neg h2] at h
      exfalso
      by_cases h3 : x_fg (t p) = true
      · rw [if_pos h3] at h
        split at h
        · simp at h
        · simp at h
      · rw [if_neg h3] at h
        by_cases h4 : t p = 39
        · rw [if_pos h4] at h
          split at h
          · simp at h
          · simp at h
        · rw [if_neg h4] at h
          split at h
          · simp at h
          · split at h
            · rename_i h6
              have h : t p = 258 := h
              rw [h] at h6
              exact absurd h6 (by decide)
            · simp at h
/-- a rule's NAMES are not 0 -/
def nz (r : Int) (σ : e3_H) : Prop := ∀ k : Int, 0 ≤ k → k < σ 56 r → σ 57 (8 * r + k) ≠ 0
theorem nz_eq {r : Int} {σ σ2 : e3_H} (h : nz r σ) (e6 : σ2 56 = σ 56) (e7 : σ2 57 = σ 57) : nz r σ2 := by
  unfold nz
  rw [e6, e7]
  exact h
theorem nz_bind {r s v x : Int} {σ σ2 : e3_H} (h : nz r σ) (hr : σ 40 27 = r) (hv : v ≠ 0) (hb : a_binds σ s v = some (x, σ2)) : nz r σ2 := by
  have b1 : ∀ (τ : e3_H) (c : Nat), nz r τ → nz r (a_bind1 τ s c) := fun τ c hτ => nz_eq hτ (by unfold a_bind1; funext y; rw [e3_up_ne (ne_1 (by decide)), e3_up_ne (ne_1 (by decide))]) (by unfold a_bind1; funext y; rw [e3_up_ne (ne_1 (by decide)), e3_up_ne (ne_1 (by decide))])
  unfold a_binds at hb
  split at hb
  · split at hb
    · cases hb
    · cases hb
      refine b1 _ _ (fun k k0 hk => ?_)
      unfold a_bind0 at hk ⊢
      rw [hr] at hk ⊢
      rw [e3_up_ne (ne_1 (by decide)), e3_up_self] at hk
      by_cases hz : k = σ 56 r
      · rw [hz, e3_up_self]; exact hv
      · rw [e3_up_ne (fun z => hz (by have := z.2; omega)), e3_up_ne (ne_1 (by decide))]
        exact h k k0 (by omega)
  · split at hb
    · cases hb
    · cases hb
      exact b1 _ _ h
