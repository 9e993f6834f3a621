/-- what a call hands over is of the SORTS that the FUNCTION takes -/
def SU1 (σ : e3_H) (r : Int) : Prop := σ 79 r = 2 → ∀ i : Nat, i < 3 → (i : Int) < σ 83 r → a_fit σ (σ 58 (8 * r + σ 84 (3 * r + i))) (σ 69 (3 * σ 80 r + i)) = true
theorem SU1_keep {σ σ2 : e3_H} {r : Int} (h : SU1 σ r) (e : ∀ a x : Int, a ≠ 80 → a ≠ 71 → σ2 a x = σ a x) (e80 : σ2 80 r = σ 80 r) : SU1 σ2 r := by
  have e43 : σ2 43 = σ 43 := funext fun x => e 43 x (by decide) (by decide)
  intro h79 i hi hi2
  rw [e 79 _ (by decide) (by decide)] at h79
  rw [e 83 _ (by decide) (by decide)] at hi2
  have := h h79 i hi hi2
  unfold a_fit at this ⊢
  rw [e80, e 84 _ (by decide) (by decide), e 58 _ (by decide) (by decide), e 69 _ (by decide) (by decide), e43]
  exact this
theorem jarg_none {σ : e3_H} {r f : Int} : ∀ (rem k : Nat), a_jarg σ r f rem k = none → ∀ i : Nat, k ≤ i → i < k + rem → a_fit σ (σ 58 (8 * r + σ 84 (3 * r + i))) (σ 69 (3 * f + i)) = true := by
  intro rem
  induction rem with
  | zero => intro k _ i h1 h2; omega
  | succ rem ih =>
    intro k h i h1 h2
    unfold a_jarg at h
    split at h
    · rename_i hf
      by_cases z : i = k
      · subst z; exact hf
      · exact ih (k + 1) h i (by omega) (by omega)
    · cases h
theorem jru_su {f : Int} : ∀ (rem k : Nat) (σ σ2 : e3_H), a_jru f rem k σ = .inr σ2 → (∀ a x : Int, a ≠ 80 ∨ x < 16 * f + k ∨ 16 * f + k + rem ≤ x → σ2 a x = σ a x) ∧ ∀ j : Nat, k ≤ j → j < k + rem → SU1 σ2 (16 * f + j) := by
  intro rem
  induction rem with
  | zero =>
    intro k σ σ2 h
    have h : Sum.inr σ = Sum.inr σ2 := h
    cases h
    exact ⟨fun _ _ _ => rfl, fun j h1 h2 => by omega⟩
  | succ rem ih =>
    intro k σ σ2 h
    unfold a_jru at h
    split at h
    · rename_i h79
      split at h
      · cases h
      · rename_i σ1 hj
        unfold a_jan at hj
        split at hj
        · cases hj
        · split at hj
          · cases hj
          · rename_i h83
            split at hj
            · cases hj
            · rename_i harg
              cases hj
              obtain ⟨i1, i2⟩ := ih _ _ _ h
              have h83 : σ 83 (16 * f + k) = σ 68 (a_fd (σ 67) (σ 81 (16 * f + k)) (a_nf σ)) := Decidable.not_not.mp h83
              generalize a_fd (σ 67) (σ 81 (16 * f + k)) (a_nf σ) = gg at *
              have e : ∀ a x : Int, ¬ (a = 80 ∧ x = 16 * f + k) → e3_up σ 80 (16 * f + k) gg a x = σ a x := fun a x ha => e3_up_ne ha
              refine ⟨fun a x hx => ?_, fun j h1 h2 => ?_⟩
              · rw [i1 a x (by omega), e a x (by omega)]
              · by_cases z : j = k
                · subst z
                  have e43 : σ2 43 = σ 43 := funext fun x => by rw [i1 43 x (Or.inl (by decide)), e 43 x (fun z => absurd z.1 (by decide))]
                  have eo : ∀ a x : Int, a ≠ 80 → σ2 a x = σ a x := fun a x ha => by rw [i1 a x (Or.inl ha), e a x (fun z => ha z.1)]
                  have e80 : σ2 80 (16 * f + j) = gg := by rw [i1 80 _ (Or.inr (Or.inl (by omega))), e3_up_self]
                  intro _ i hi hi2
                  rw [eo 83 _ (by decide), h83] at hi2
                  have := jarg_none _ _ harg i (by omega) (by omega)
                  unfold a_fit at this ⊢
                  rw [e80, eo 84 _ (by decide), eo 58 _ (by decide), eo 69 _ (by decide), e43]
                  exact this
                · exact i2 j (by omega) (by omega)
    · rename_i h79
      obtain ⟨i1, i2⟩ := ih _ _ _ h
      refine ⟨fun a x hx => i1 a x (by omega), fun j h1 h2 => ?_⟩
      by_cases z : j = k
      · subst z
        intro y
        rw [i1 79 _ (Or.inl (by decide))] at y
        exact absurd y h79
      · exact i2 j (by omega) (by omega)
theorem jfs_su : ∀ (rem f : Nat) (σ σ2 : e3_H), a_jfs rem f σ = .inr σ2 → (∀ f' : Nat, f ≤ f' → f' < f + rem → σ 70 f' ≤ 16) → (∀ a x : Int, a ≠ 80 ∨ x < 16 * (f : Int) → σ2 a x = σ a x) ∧ ∀ f' k : Nat, f ≤ f' → f' < f + rem → (k : Int) < σ 70 f' → SU1 σ2 (16 * (f' : Int) + k) := by
  intro rem
  induction rem with
  | zero =>
    intro f σ σ2 h _
    have h : Sum.inr σ = Sum.inr σ2 := h
    cases h
    exact ⟨fun _ _ _ => rfl, fun f' k h1 h2 => by omega⟩
  | succ rem ih =>
    intro f σ σ2 h h16
    unfold a_jfs at h
    split at h
    · cases h
    · rename_i σ1 hj
      obtain ⟨j1, j2⟩ := jru_su _ _ _ _ hj
      have e70 : ∀ x : Int, σ1 70 x = σ 70 x := fun x => j1 70 x (Or.inl (by decide))
      obtain ⟨i1, i2⟩ := ih (f + 1) σ1 σ2 h (fun f' h1 h2 => by rw [e70]; exact h16 f' (by omega) (by omega))
      refine ⟨fun a x hx => ?_, fun f' k h1 h2 h3 => ?_⟩
      · rw [i1 a x (by omega), j1 a x (by omega)]
      · by_cases z : f' = f
        · subst z
          have := h16 f' (by omega) (by omega)
          refine SU1_keep (j2 k (by omega) (by omega)) (fun a x a1 _ => i1 a x (Or.inl a1)) (i1 80 _ (Or.inr (by omega)))
        · exact i2 f' k (by omega) (by omega) (by rw [e70]; exact h3)
/-- below m, what is under what stays -/
theorem of_e {f g : Int → Int} {o : Int} {m : Nat} (hu : a_up f m) (e : ∀ k : Nat, k < m → g k = f k) : ∀ (n : Nat) (j : Int), j < (m : Int) → a_of g o n j = a_of f o n j := by
  intro n
  induction n with
  | zero => intro j _; rfl
  | succ n ih =>
    intro j hj
    show (if j < 0 then false else if j = o then true else a_of g o n (g j)) = (if j < 0 then false else if j = o then true else a_of f o n (f j))
    by_cases z : j < 0
    · rw [if_pos z, if_pos z]
    · rw [if_neg z, if_neg z]
      have ej : ((j.toNat : Nat) : Int) = j := by omega
      have hg := e j.toNat (by omega)
      have hf := hu j.toNat (by omega)
      rw [ej] at hg hf
      by_cases y : j = o
      · rw [if_pos y, if_pos y]
      · rw [if_neg y, if_neg y, hg]
        exact ih _ (by omega)
