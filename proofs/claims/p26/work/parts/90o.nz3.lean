section NZR
variable {n m : Nat} {t : Int → Int} {r : Int}
theorem nz_cols {f : Int} {mu : Bool} : ∀ (rem c : Nat) (last : Int) (i : Nat) (σ : e3_H) (j : Nat) (σ2 : e3_H), a_cols t n f mu rem c last i σ = .inr (j, σ2) → p_inv σ m i → σ 40 16 ≤ (i : Int) → σ 40 27 = r → (1 ≤ σ 74 r ∧ σ 74 r ≤ 1000) → (c ≠ 0 → 0 ≤ last) → nz r σ → nz r σ2 := by
  intro rem
  induction rem with
  | zero =>
    intro c last i σ j σ2 h h1 h2 h3 h4 h6 h7
    cases h
    exact h7
  | succ rem ih =>
    intro c last i σ j σ2 h h1 h2 h3 h4 h6 h7
    unfold a_cols at h
    split at h
    · cases h
    · split at h
      · cases h
      · rename_i j2 σ3 p hp
        have hij : i ≤ (if c = 0 then i else i + 1) := by split <;> omega
        have hin := p_inv_le h1 hij
        obtain ⟨b1, b2, b3, b4, b5, b6⟩ := a_pat_ok _ _ _ _ _ _ _ _ _ hp hin (by omega)
        have w1 := nz_pat (r := r) _ _ _ _ _ _ _ _ _ hp hin (by omega) h3 h7
        have e27 : σ3 40 27 = r := by rw [b6.2.1 27 (by omega) (by omega)]; exact h3
        have e74 : σ3 74 = σ 74 := b6.2.2.1 74 (by omega) (by omega)
        have hp0 := h1.2.1.1
        obtain ⟨c1, c2, c3, c4, c5⟩ := a_col1_ok (p0 := 0) (c := c) (last := last) (p := p) b5 (by rw [e27, e74]; exact h4) (by omega) e27 h6
        have hn : nz r (a_col1 σ3 c last p) := by
          unfold a_col1 a_mulr
          split
          · exact nz_up (nz_up w1 (by decide) (by decide)) (by decide) (by decide)
          · exact nz_up (nz_up w1 (by decide) (by decide)) (by decide) (by decide)
        exact ih (c + 1) p j2 _ j σ2 h c1 (by rw [c3]; omega) c4 c5 (fun _ => by omega) hn
theorem nz_rule {f : Int} {i j : Nat} {σ σ2 : e3_H} (h : a_rule t n f i σ = .inr (j, σ2)) (hp : p_w σ m) (hs : σ 40 16 ≤ (i : Int)) (hf : 0 ≤ f ∧ f < 12) (h70 : 0 ≤ σ 70 f ∧ σ 70 f < 16) : nz (16 * f + σ 70 f) σ2 := by
  unfold a_rule at h
  have er : a_rno f σ = 16 * f + σ 70 f := by unfold a_rno; rw [if_neg (by omega)]
  rw [er] at h
  generalize hr : 16 * f + σ 70 f = r at *
  have p0 : p_inv (a_rule0 t n r i σ) m i := p_rule0 hp hs (by omega)
  have z27 : a_rule0 t n r i σ 40 27 = r := by unfold a_rule0; simp (disch := omega) only [e3_up_self, e3_up_ne]
  have z74 : a_rule0 t n r i σ 74 r = 1 := by unfold a_rule0; simp (disch := omega) only [e3_up_self, e3_up_ne]
  have z56 : a_rule0 t n r i σ 56 r = 0 := by unfold a_rule0; simp (disch := omega) only [e3_up_self, e3_up_ne]
  have z16 : a_rule0 t n r i σ 40 16 = σ 40 16 := by unfold a_rule0; simp (disch := omega) only [e3_up_self, e3_up_ne]
  split at h
  · cases h
  · rename_i j1 σ1 h1'
    have hN := nz_cols (r := r) _ _ _ _ _ _ _ h1' p0 (by rw [z16]; exact hs) z27 (by rw [z74]; omega) (fun z => absurd rfl z) (fun k k0 hk => by rw [z56] at hk; omega)
    split at h
    · cases h
    · split at h
      · cases h
      · rename_i j2 σ3 h3
        have g1 := g_guard h3
        split at h
        · split at h
          · cases h
          · rename_i j4 σ4 h4
            have g2 := (g_answer h4).1
            split at h
            · cases h
              exact nz_up (nz_eq hN (funext fun y => (g2 56 y (Or.inl (by decide))).trans (g1 56 y (Or.inl (by decide)))) (funext fun y => (g2 57 y (Or.inl (by decide))).trans (g1 57 y (Or.inl (by decide))))) (by decide) (by decide)
            · cases h
        · cases h
theorem nz_keep {σ σ2 : e3_H} (h : nz r σ) (e6 : σ2 56 r = σ 56 r) (h8 : σ 56 r ≤ 8) (e7 : ∀ k : Int, 0 ≤ k → k < 8 → σ2 57 (8 * r + k) = σ 57 (8 * r + k)) : nz r σ2 := by
  intro k k0 hk
  rw [e6] at hk
  rw [e7 k k0 (by omega)]
  exact h k k0 hk
def NZ1 (σ : e3_H) (f : Int) : Prop := ∀ k : Int, 0 ≤ k → k < σ 70 f → nz (16 * f + k) σ
def NZ (σ : e3_H) (nf : Nat) : Prop := ∀ f : Int, 0 ≤ f → f < nf → NZ1 σ f
theorem nz_rules {f : Int} (hf : 0 ≤ f ∧ f < 12) : ∀ (g i : Nat) (σ : e3_H) (j : Nat) (σ2 : e3_H), a_rules t n f g i σ = .inr (j, σ2) → p_w σ m → σ 40 16 ≤ (i : Int) → F_one σ m f → F_lt σ m f → NZ1 σ f → NZ1 σ2 f := by
  intro g
  induction g with
  | zero => intro i σ j σ2 h; cases h
  | succ g ih =>
    intro i σ j σ2 h hp hs hF hL hW
    unfold a_rules at h
    split at h
    · cases h; exact hW
    · split at h
      · cases h
      · rename_i j1 σ1 h1
        obtain ⟨c1, c2, c3, c4, c5, c6⟩ := F_rule h1 hp hs hf hF hL
        obtain ⟨b1, b2, b3, b4, b5, b6, b7, b8⟩ := a_rule_ok h1 hp hs hf hF.1 hF.2.1 hF.2.2.1
        have h70 := hF.2.2.1
        refine ih j1 σ1 j σ2 h c3 c4 c1 c2 (fun k k0 hk => ?_)
        rw [b5] at hk
        by_cases hz : k = σ 70 f
        · rw [hz]
          exact nz_rule h1 hp hs hf ⟨h70.1, b2⟩
        · have hj := (hF.2.2.2 k k0 (by omega)).2.1
          exact nz_keep (hW k k0 (by omega)) (b7 _ _ (by unfold h_own; omega) (by omega)) (by omega) (fun x x0 x1 => b7 _ _ (by unfold h_own; omega) (by omega))
end NZR
