section KP2
variable {t : Int → Int} {n : Nat}
theorem pts_k {k m : Nat} (hk : k < m) : ∀ (f i j : Nat) (σ σ2 : e3_H), a_pts t n k f i σ = .inr (j, σ2) → k_inv σ m → k_inv σ2 m := by
  intro f
  induction f with
  | zero => intro i j σ σ2 h; cases h
  | succ f ih =>
    intro i j σ σ2 h hK
    unfold a_pts at h
    split at h
    · cases h
    · rename_i s hs
      obtain ⟨s1, s2, s3, s4⟩ := a_sort_rg hK hs
      have h4 : σ 44 k < 4 := by
        have := of_decide_eq_false s4
        have := (hK.2.2.2.2 k hk).2.1
        omega
      have hK2 := (k_part hK hk h4 ⟨s1, s2⟩).1
      split at h
      · exact ih _ _ _ _ h hK2
      · split at h
        · cases h
          exact hK2
        · cases h
theorem knd_k {i j m : Nat} {added : Bool} {σ σ2 : e3_H} (h : a_knd t n i added σ = .inr (j, σ2)) (hK : k_inv σ m) : k_inv σ2 (m + 1) := by
  have hnk := k_nk hK
  unfold a_knd at h
  rw [hnk] at h
  split at h
  · cases h
  · split at h
    · cases h
    · rename_i hfd
      have hfd : a_fd (σ 42) (x_wo t n i) m = -4 := Decidable.byContradiction hfd
      split at h
      · cases h
      · rename_i h24
        have hm := hK.2.1
        have new := k_new hK (by omega) hfd
        have two : ∀ (j1 : Nat) (σ1 : e3_H), a_knd1 t n m (i + 1) added (a_new σ m (x_wo t n i)) = .inr (j1, σ1) → k_inv σ1 (m + 1) := by
          intro j1 σ1 h1
          unfold a_knd1 at h1
          split at h1
          · unfold a_und at h1
            split at h1
            · cases h1
            · split at h1
              · cases h1
              · rename_i hu
                split at h1
                · cases h1
                · cases h1
                  rcases a_fd_rg (a_new σ m (x_wo t n i) 42) (x_wo t n (i + 1 + 1)) (m + 1) with y | ⟨y1, y2, y3⟩
                  · exact absurd (Or.inl y) hu
                  · have y4 : a_fd (a_new σ m (x_wo t n i) 42) (x_wo t n (i + 1 + 1)) (m + 1) ≠ m := fun z => hu (Or.inr z)
                    generalize a_fd (a_new σ m (x_wo t n i) 42) (x_wo t n (i + 1 + 1)) (m + 1) = u at y1 y2 y4
                    obtain ⟨n1, n2, n3, n4, n5⟩ := new
                    refine ⟨by rw [e3_up_ne (ne_1 (by decide))]; exact n1, n2, fun a b ha hb he => n3 a b ha hb (by rw [e3_up_ne (ne_1 (by decide)), e3_up_ne (ne_1 (by decide))] at he; exact he), fun a ha => ?_, fun a ha => ?_⟩
                    · by_cases hz : a = m
                      · rw [hz, e3_up_self]
                        exact Or.inr ⟨y1, by omega⟩
                      · rw [e3_up_ne (fun z => by have := z.2; omega)]
                        exact n4 a ha
                    · rw [e3_up_ne (ne_1 (by decide))]
                      refine ⟨(n5 a ha).1, (n5 a ha).2.1, fun b hb => ?_⟩
                      rw [e3_up_ne (ne_1 (by decide))]
                      exact (n5 a ha).2.2 b hb
          · split at h1
            · cases h1
            · cases h1
              exact new
        unfold a_knd2 at h
        split at h
        · cases h
        · rename_i j1 σ1 h1
          have K1 := two j1 σ1 h1
          split at h
          · unfold a_knd3 at h
            split at h
            · cases h
            · rename_i j3 σ3 h3
              split at h
              · cases h
                exact pts_k (by omega) _ _ _ _ _ h3 K1
              · cases h
          · unfold a_knd3 at h
            simp only at h
            split at h
            · cases h
              exact K1
            · cases h
theorem knds_k : ∀ (g i m j : Nat) (σ σ2 : e3_H), a_knds t n g i σ = .inr (j, σ2) → k_inv σ m → ∃ m2, k_inv σ2 m2 := by
  intro g
  induction g with
  | zero => intro i m j σ σ2 h; cases h
  | succ g ih =>
    intro i m j σ σ2 h hK
    unfold a_knds at h
    split at h
    · split at h
      · cases h
      · rename_i j1 σ1 h1
        exact ih _ _ _ _ _ h (knd_k h1 hK)
    · cases h
      exact ⟨m, hK⟩
theorem funs_43 {m : Nat} : ∀ (g i nf : Nat) (σ : e3_H) (j : Nat) (σ2 : e3_H), a_funs t n g i σ = .inr (j, σ2) → F_inv σ m nf → σ 40 16 ≤ (i : Int) → (∃ nf2, F_inv σ2 m nf2) ∧ ∀ a : Int, 42 ≤ a → a ≤ 45 → σ2 a = σ a := by
  intro g
  induction g with
  | zero => intro i nf σ j σ2 h; cases h
  | succ g ih =>
    intro i nf σ j σ2 h hF hs
    unfold a_funs at h
    split at h
    · split at h
      · cases h
      · rename_i j1 σ1 h1
        obtain ⟨c1, c2, c3⟩ := a_fun_ok h1 hF (by omega)
        have f1 := (a_fun_fr h1 hF (by omega)).2.1
        obtain ⟨r1, r2⟩ := ih j1 (nf + 1) σ1 j σ2 h c1 c2
        exact ⟨r1, fun a a1 a2 => (r2 a a1 a2).trans (f1 a a1 a2)⟩
    · split at h
      · cases h; exact ⟨⟨nf, hF⟩, fun _ _ _ => rfl⟩
      · cases h
/-- in a text that is taken, upper KINDS have no parts -/
theorem KP_text {m nf : Nat} {σ σ3 : e3_H} (h : a_text t n σ = .inr σ3) (h10 : σ 40 10 = 0) (h16 : σ 40 16 = 0) (h41 : σ 40 41 = 0) (hF3 : F_inv σ3 m nf) : KP σ3 m := by
  unfold a_text at h
  split at h
  · cases h
  · rename_i i σ1 h1
    have k0 : k_inv σ 0 := ⟨h10, by omega, fun a b ha => absurd ha (Nat.not_lt_zero _), fun a ha => absurd ha (Nat.not_lt_zero _), fun a ha => absurd ha (Nat.not_lt_zero _)⟩
    have p0 : KPs σ 0 := ⟨h10, fun a ha => absurd ha (Nat.not_lt_zero _), fun a ha => absurd ha (Nat.not_lt_zero _)⟩
    obtain ⟨m1, hk1⟩ := knds_k _ _ _ _ _ _ h1 k0
    obtain ⟨⟨m2, hp1⟩, hx⟩ := KPs_knds _ _ _ _ _ _ h1 p0
    have hmm : m1 = m2 := by
      have a1 := hk1.1
      have a2 := hp1.1
      omega
    subst hmm
    split at h
    · cases h
    · rename_i j2 σ2 h2
      have hF1 := F_kn hk1 (by rw [hx 16 (by decide)]; exact h16) (by rw [hx 41 (by decide)]; exact h41)
      have h16' : σ1 40 16 = 0 := by rw [hx 16 (by decide)]; exact h16
      obtain ⟨⟨nf2, hF2⟩, e2⟩ := funs_43 _ _ _ _ _ _ h2 hF1 (by omega)
      obtain ⟨c1, c2⟩ := a_judge_ok h hF2
      have hm3 : m = m1 := by
        have a1 := hF3.2.2.2.2.1.1
        have a2 := c1.2.2.2.2.1.1
        omega
      subst hm3
      intro j hj
      have := KPs_KP hp1 j hj
      rw [c2 43 _ (by decide) (by decide), c2 44 _ (by decide) (by decide), e2 43 (by decide) (by decide), e2 44 (by decide) (by decide)]
      exact this
end KP2
