/-- what reading rule r, from pattern p0 on, may write -/
def h_own (r p0 a k : Int) : Prop := (46 ≤ a ∧ a ≤ 55 ∧ p0 ≤ k) ∨ ((a = 56 ∨ a = 72 ∨ a = 73 ∨ a = 74 ∨ (78 ≤ a ∧ a ≤ 83)) ∧ k = r) ∨ ((a = 57 ∨ a = 58) ∧ 8 * r ≤ k ∧ k < 8 * r + 8) ∨ ((a = 75 ∨ a = 76) ∧ 4 * r ≤ k ∧ k < 4 * r + 4) ∨ (a = 77 ∧ 2 * r ≤ k ∧ k < 2 * r + 2) ∨ ((a = 84 ∨ a = 85) ∧ 3 * r ≤ k ∧ k < 3 * r + 3) ∨ (a = 40 ∧ (k = 16 ∨ k = 27 ∨ k = 31))
def h_fr (r p0 : Int) (σ σ2 : e3_H) : Prop := σ 40 16 ≤ σ2 40 16 ∧ ∀ a k : Int, ¬ h_own r p0 a k → σ2 a k = σ a k
theorem h_rf (r p0 : Int) (σ : e3_H) : h_fr r p0 σ σ := ⟨by omega, fun _ _ _ => rfl⟩
theorem h_tr {r p0 : Int} {σ σ2 σ3 : e3_H} (h : h_fr r p0 σ σ2) (h2 : h_fr r p0 σ2 σ3) : h_fr r p0 σ σ3 := ⟨by have := h.1; have := h2.1; omega, fun a k hk => (h2.2 a k hk).trans (h.2 a k hk)⟩
theorem h_up {r p0 a j v : Int} {σ σ2 : e3_H} (h : h_fr r p0 σ σ2) (ho : h_own r p0 a j) (h16 : ¬ (a = 40 ∧ j = 16)) : h_fr r p0 σ (e3_up σ2 a j v) := ⟨by rw [e3_up_ne (by omega)]; exact h.1, fun b k hk => by
  rw [e3_up_ne (fun z => hk (by rw [z.1, z.2]; exact ho))]
  exact h.2 b k hk⟩
theorem h_a {r p0 p1 : Int} {σ σ2 : e3_H} (h : a_fr p1 σ σ2) (hr : σ 40 27 = r) (hp : p0 ≤ p1) : h_fr r p0 σ σ2 := by
  obtain ⟨a1, a2, a3, a4, a5, a6, a7, a8⟩ := h
  rw [hr] at a5 a6
  refine ⟨a1, fun a k hk => ?_⟩
  unfold h_own at hk
  by_cases c1 : a = 40
  · subst c1; exact a2 k (by omega) (by omega)
  by_cases c2 : a < 46 ∨ 58 < a
  · rw [a3 a c1 c2]
  by_cases c3 : a ≤ 55
  · exact a4 a k (by omega) c3 (by omega)
  by_cases c4 : a = 56
  · subst c4; exact a5 k (by omega)
  · exact a6 a k (by omega) (by omega)
section AH
variable {σ : e3_H} {n i m : Nat} {t : Int → Int} {r p0 : Int}
theorem h_term {ti : Int} {j : Nat} {σ2 : e3_H} (h : a_term t n ti i σ = .inr (j, σ2)) (ht : 4 * r ≤ ti ∧ ti < 4 * r + 4) : h_fr r p0 σ σ2 ∧ i < j := by
  unfold a_term at h
  split at h
  · split at h
    · cases h
    · cases h; exact ⟨h_up (h_up (h_rf _ _ _) (by unfold h_own; omega) (by omega)) (by unfold h_own; omega) (by omega), by omega⟩
  · split at h
    · cases h
    · rename_i hx
      have := a_num_lt hx
      cases h; exact ⟨h_up (h_up (h_rf _ _ _) (by unfold h_own; omega) (by omega)) (by unfold h_own; omega) (by omega), this⟩
theorem h_sum {ti si : Int} {j : Nat} {σ2 : e3_H} (h : a_sum t n ti si i σ = .inr (j, σ2)) (ht : 4 * r ≤ ti ∧ ti + 1 < 4 * r + 4) (hs : 2 * r ≤ si ∧ si < 2 * r + 2) : h_fr r p0 σ σ2 ∧ i < j := by
  unfold a_sum at h
  split at h
  · cases h
  · rename_i j2 σ3 h3
    have h4 := h_term (r := r) (p0 := p0) h3 (by omega)
    have h5 : h_fr r p0 σ (e3_up (e3_up σ3 75 (ti + 1) 0) 77 si 0) := h_up (h_up h4.1 (by unfold h_own; omega) (by omega)) (by unfold h_own; omega) (by omega)
    split at h
    · have h6 := h_term (r := r) (p0 := p0) h (by omega)
      exact ⟨h_tr (h_up h5 (by unfold h_own; omega) (by omega)) h6.1, by omega⟩
    · cases h; exact ⟨h5, h4.2⟩
theorem h_guard {j : Nat} {σ2 : e3_H} (h : a_guard t n i σ = .inr (j, σ2)) (hr : σ 40 27 = r) : h_fr r p0 σ σ2 ∧ i ≤ j := by
  unfold a_guard at h
  rw [hr] at h
  split at h
  · split at h
    · cases h
    · rename_i j2 σ3 h3
      have h4 := h_sum (r := r) (p0 := p0) h3 (by omega) (by omega)
      have h5 := h_tr (h_up (h_rf r p0 σ) (by unfold h_own; omega) (by omega)) h4.1
      split at h
      · have h6 := h_sum (r := r) (p0 := p0) h (by omega) (by omega)
        exact ⟨h_tr (h_up h5 (by unfold h_own; omega) (by omega)) h6.1, by omega⟩
      · cases h
  · cases h; exact ⟨h_up (h_rf _ _ _) (by unfold h_own; omega) (by omega), by omega⟩
theorem h_arg1 {k sp : Int} (hr : σ 40 27 = r) (h0 : 0 ≤ σ 83 r) : h_fr r p0 σ (a_arg1 σ k sp) ∧ a_arg1 σ k sp 83 r = σ 83 r + 1 := by
  unfold a_arg1
  rw [hr]
  split
  · exact ⟨h_up (h_up (h_up (h_rf _ _ _) (by unfold h_own; omega) (by omega)) (by unfold h_own; omega) (by omega)) (by unfold h_own; omega) (by omega), by simp (disch := omega) only [e3_up_self, e3_up_ne]⟩
  · exact ⟨h_up (h_rf _ _ _) (by unfold h_own; omega) (by omega), by simp (disch := omega) only [e3_up_self, e3_up_ne]⟩
theorem h_args : ∀ (f i j : Nat) (σ σ2 : e3_H), a_args t n f i σ = .inr (j, σ2) → σ 40 27 = r → 0 ≤ σ 83 r → h_fr r p0 σ σ2 ∧ i < j := by
  intro f
  induction f with
  | zero => intro i j σ σ2 h; cases h
  | succ f ih =>
    intro i j σ σ2 h hr h0
    unfold a_args at h
    split at h
    · split at h
      · cases h
      · rename_i k _
        have h1 := h_arg1 (p0 := p0) (k := k) (sp := x_sp t n i) hr h0
        split at h
        · have := ih _ _ _ _ h (by rw [g_arg1 40 27 (by omega)]; exact hr) (by omega)
          exact ⟨h_tr h1.1 this.1, by omega⟩
        · split at h
          · cases h; exact ⟨h1.1, by omega⟩
          · cases h
    · cases h
theorem h_answer {j : Nat} {σ2 : e3_H} (h : a_answer t n i σ = .inr (j, σ2)) (hr : σ 40 27 = r) : h_fr r p0 σ σ2 ∧ i < j := by
  unfold a_answer at h
  rw [hr] at h
  split at h
  · split at h
    · have := h_args (r := r) (p0 := p0) _ _ _ _ _ h (by simp (disch := omega) only [e3_up_self, e3_up_ne]; exact hr) (by simp (disch := omega) only [e3_up_self, e3_up_ne]; omega)
      exact ⟨h_tr (h_up (h_up (h_up (h_up (h_rf _ _ _) (by unfold h_own; omega) (by omega)) (by unfold h_own; omega) (by omega)) (by unfold h_own; omega) (by omega)) (by unfold h_own; omega) (by omega)) this.1, by omega⟩
    · split at h
      · cases h
      · cases h; exact ⟨h_up (h_up (h_up (h_up (h_up (h_rf _ _ _) (by unfold h_own; omega) (by omega)) (by unfold h_own; omega) (by omega)) (by unfold h_own; omega) (by omega)) (by unfold h_own; omega) (by omega)) (by unfold h_own; omega) (by omega), by omega⟩
  · split at h
    · cases h
    · rename_i hx
      have := a_num_lt hx
      cases h; exact ⟨h_up (h_up (h_up (h_up (h_rf _ _ _) (by unfold h_own; omega) (by omega)) (by unfold h_own; omega) (by omega)) (by unfold h_own; omega) (by omega)) (by unfold h_own; omega) (by omega), this⟩
theorem p_g {σ2 : e3_H} (h : p_inv σ m i) (hg : g_fr σ σ2) : p_inv σ2 m i := by
  obtain ⟨hk, h16, h27, h56, h31, h55⟩ := h
  have e : ∀ a : Int, a < 75 → σ2 a = σ a := fun a ha => funext fun k => hg a k (by omega)
  refine ⟨k_inv_congr hk (by rw [e 40 (by omega)]) (e 42 (by omega)) (e 43 (by omega)) (e 44 (by omega)) (e 45 (by omega)), ?_⟩
  rw [e 40 (by omega), e 56 (by omega), e 55 (by omega)]
  exact ⟨h16, h27, h56, h31, h55⟩
/-- one more pattern of a rule -/
theorem a_col1_ok {c : Nat} {last p : Int} (hp : p_inv σ m i) (h74 : 1 ≤ σ 74 (σ 40 27) ∧ σ 74 (σ 40 27) ≤ 1000) (hq : 0 ≤ p ∧ p < σ 40 16) (hr : σ 40 27 = r) (hl : c ≠ 0 → p0 ≤ last) : p_inv (a_col1 σ c last p) m i ∧ h_fr r p0 σ (a_col1 σ c last p) ∧ a_col1 σ c last p 40 16 = σ 40 16 ∧ a_col1 σ c last p 40 27 = r ∧ (1 ≤ a_col1 σ c last p 74 r ∧ a_col1 σ c last p 74 r ≤ 1000) := by
  have r2 := hp.2.2.2.2.2 p hq.1 hq.2
  have hm1 : 1 ≤ σ 74 (σ 40 27) * σ 55 p := by
    have := Int.mul_le_mul h74.1 r2.1 (by omega) (by omega)
    omega
  subst hr
  unfold a_col1 a_mulr
  by_cases hc : c = 0
  · simp only [if_pos hc]
    rw [show (e3_up σ 72 (σ 40 27) p) 40 27 = σ 40 27 from e3_up_ne (by omega)]
    refine ⟨p_inv_u2 (p_inv_u2 hp (by omega)) (by omega), ?_, by simp (disch := omega) only [e3_up_self, e3_up_ne], by simp (disch := omega) only [e3_up_self, e3_up_ne], ?_⟩
    · exact h_up (h_up (h_rf _ _ _) (by unfold h_own; omega) (by omega)) (by unfold h_own; omega) (by omega)
    · simp (disch := omega) only [e3_up_self, e3_up_ne]; split <;> omega
  · simp only [if_neg hc]
    have hl2 := hl hc
    rw [show (e3_up σ 52 last p) 40 27 = σ 40 27 from e3_up_ne (by omega)]
    refine ⟨p_inv_u2 (p_inv_u2 hp (by omega)) (by omega), ?_, by simp (disch := omega) only [e3_up_self, e3_up_ne], by simp (disch := omega) only [e3_up_self, e3_up_ne], ?_⟩
    · exact h_up (h_up (h_rf _ _ _) (by unfold h_own; omega) (by omega)) (by unfold h_own; omega) (by omega)
    · simp (disch := omega) only [e3_up_self, e3_up_ne]; split <;> omega
theorem a_cols_ok {f : Int} {mu : Bool} : ∀ (rem c : Nat) (last : Int) (i : Nat) (σ : e3_H) (j : Nat) (σ2 : e3_H), a_cols t n f mu rem c last i σ = .inr (j, σ2) → p_inv σ m i → σ 40 16 ≤ (i : Int) → σ 40 27 = r → (1 ≤ σ 74 r ∧ σ 74 r ≤ 1000) → p0 ≤ σ 40 16 → (c ≠ 0 → p0 ≤ last) → i ≤ j ∧ p_inv σ2 m j ∧ σ2 40 16 ≤ (j : Int) ∧ σ2 40 27 = r ∧ (1 ≤ σ2 74 r ∧ σ2 74 r ≤ 1000) ∧ h_fr r p0 σ σ2 := by
  intro rem
  induction rem with
  | zero =>
    intro c last i σ j σ2 h h1 h2 h3 h4 h5 h6
    cases h
    exact ⟨by omega, h1, h2, h3, h4, h_rf _ _ _⟩
  | succ rem ih =>
    intro c last i σ j σ2 h h1 h2 h3 h4 h5 h6
    unfold a_cols at h
    split at h
    · cases h
    · split at h
      · cases h
      · rename_i j2 σ3 p hp
        have hij : i ≤ (if c = 0 then i else i + 1) := by split <;> omega
        obtain ⟨b1, b2, b3, b4, b5, b6⟩ := a_pat_ok _ _ _ _ _ _ _ _ _ hp (p_inv_le h1 hij) (by omega)
        have e27 : σ3 40 27 = r := by rw [b6.2.1 27 (by omega) (by omega)]; exact h3
        have e74 : σ3 74 = σ 74 := b6.2.2.1 74 (by omega) (by omega)
        obtain ⟨c1, c2, c3, c4, c5⟩ := a_col1_ok (p0 := p0) (c := c) (last := last) (p := p) b5 (by rw [e27, e74]; exact h4) (by have := h1.2.1.1; omega) e27 h6
        have := ih (c + 1) p j2 _ j σ2 h c1 (by rw [c3]; omega) c4 c5 (by rw [c3]; omega) (by omega)
        obtain ⟨d1, d2, d3, d4, d5, d6⟩ := this
        exact ⟨by omega, d2, d3, d4, d5, h_tr (h_tr (h_a b6 h3 h5) c2) d6⟩
end AH
