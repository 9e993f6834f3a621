/-- upper KINDS have no parts, as a text is read -/
def KPs (σ : e3_H) (m : Nat) : Prop := σ 40 10 = m ∧ (∀ j : Nat, j < m → σ 43 j = -4 ∨ (0 ≤ σ 43 j ∧ σ 43 j < j ∧ σ 44 (σ 43 j) = 0)) ∧ ∀ j : Nat, j < m → 0 ≤ σ 44 j
theorem KPs_KP {σ : e3_H} {m : Nat} (h : KPs σ m) : KP σ m := fun j hj => (h.2.1 j hj).imp id (fun z => z.2.2)
section KPT
variable {t : Int → Int} {n : Nat}
theorem pts_43 {k : Nat} : ∀ (f i j : Nat) (σ σ2 : e3_H), a_pts t n k f i σ = .inr (j, σ2) → (∀ x : Int, σ2 43 x = σ 43 x) ∧ (∀ x : Int, x ≠ k → σ2 44 x = σ 44 x) ∧ (0 ≤ σ 44 k → 0 ≤ σ2 44 k) := by
  intro f
  induction f with
  | zero => intro i j σ σ2 h; cases h
  | succ f ih =>
    intro i j σ σ2 h
    have h1 : ∀ s, (∀ x : Int, a_pt1 σ k s 43 x = σ 43 x) ∧ (∀ x : Int, x ≠ k → a_pt1 σ k s 44 x = σ 44 x) ∧ (0 ≤ σ 44 k → 0 ≤ a_pt1 σ k s 44 k) := fun s => by
      unfold a_pt1
      refine ⟨fun x => by rw [e3_up_ne (ne_1 (by decide)), e3_up_ne (ne_1 (by decide))], fun x hx => by rw [e3_up_ne (fun z => hx z.2), e3_up_ne (ne_1 (by decide))], fun hz => by rw [e3_up_self]; omega⟩
    unfold a_pts at h
    split at h
    · cases h
    · rename_i s hs
      obtain ⟨a1, a2, a3⟩ := h1 s
      split at h
      · obtain ⟨b1, b2, b3⟩ := ih _ _ _ _ h
        exact ⟨fun x => (b1 x).trans (a1 x), fun x hx => (b2 x hx).trans (a2 x hx), fun hz => b3 (a3 hz)⟩
      · split at h
        · cases h
          exact ⟨a1, a2, a3⟩
        · cases h
theorem KPs_knd {i j m : Nat} {added : Bool} {σ σ2 : e3_H} (h : a_knd t n i added σ = .inr (j, σ2)) (hK : KPs σ m) : KPs σ2 (m + 1) := by
  obtain ⟨k1, k2, k3⟩ := hK
  have hnk : a_nk σ = m := by unfold a_nk; rw [k1]; omega
  have h40 := (knd_40 h).2
  unfold a_knd at h
  rw [hnk] at h
  split at h
  · cases h
  · split at h
    · cases h
    · split at h
      · cases h
      · obtain ⟨e1, e2, e3, e4, e5, e6, _⟩ := a_new_at σ m (x_wo t n i)
        -- the state behind a_new and under
        have two : ∀ (j1 : Nat) (σ1 : e3_H), a_knd1 t n m (i + 1) added (a_new σ m (x_wo t n i)) = .inr (j1, σ1) → KPs σ1 (m + 1) := by
          intro j1 σ1 h1
          unfold a_knd1 at h1
          have new : KPs (a_new σ m (x_wo t n i)) (m + 1) := by
            refine ⟨e1, fun a ha => ?_, fun a ha => ?_⟩
            · by_cases hz : a = m
              · rw [hz]; exact Or.inl e3
              · rw [(e5 a (by omega)).2.1]
                rcases k2 a (by omega) with y | ⟨y1, y2, y3⟩
                · exact Or.inl y
                · exact Or.inr ⟨y1, y2, by rw [(e5 _ (by omega)).2.2]; exact y3⟩
            · by_cases hz : a = m
              · rw [hz, e4]; exact Int.le_refl _
              · rw [(e5 a (by omega)).2.2]; exact k3 a (by omega)
          split at h1
          · unfold a_und at h1
            split at h1
            · cases h1
            · split at h1
              · cases h1
              · rename_i hu
                split at h1
                · cases h1
                · rename_i hu2
                  cases h1
                  rcases a_fd_rg (a_new σ m (x_wo t n i) 42) (x_wo t n (i + 1 + 1)) (m + 1) with y | ⟨y1, y2, y3⟩
                  · exact absurd (Or.inl y) hu
                  · have y4 : a_fd (a_new σ m (x_wo t n i) 42) (x_wo t n (i + 1 + 1)) (m + 1) ≠ m := fun z => hu (Or.inr z)
                    have y5 : ¬ 0 < a_new σ m (x_wo t n i) 44 (a_fd (a_new σ m (x_wo t n i) 42) (x_wo t n (i + 1 + 1)) (m + 1)) := fun z => hu2 (Or.inl z)
                    generalize a_fd (a_new σ m (x_wo t n i) 42) (x_wo t n (i + 1 + 1)) (m + 1) = u at y1 y2 y4 y5
                    obtain ⟨n1, n2, n3⟩ := new
                    have y6 := n3 u.toNat (by omega)
                    rw [show ((u.toNat : Nat) : Int) = u by omega] at y6
                    refine ⟨by rw [e3_up_ne (ne_1 (by decide))]; exact n1, fun a ha => ?_, fun a ha => by rw [e3_up_ne (ne_1 (by decide))]; exact n3 a ha⟩
                    by_cases hz : a = m
                    · rw [hz, e3_up_self, e3_up_ne (ne_1 (by decide))]
                      exact Or.inr ⟨y1, by omega, by omega⟩
                    · rw [e3_up_ne (fun z => by have := z.2; omega), e3_up_ne (ne_1 (by decide))]
                      exact n2 a ha
          · split at h1
            · cases h1
            · cases h1
              exact new
        unfold a_knd2 at h
        split at h
        · cases h
        · rename_i j1 σ1 h1
          have K1 := two j1 σ1 h1
          obtain ⟨n1, n2, n3⟩ := K1
          split at h
          · unfold a_knd3 at h
            split at h
            · cases h
            · rename_i j3 σ3 h3
              split at h
              · cases h
                obtain ⟨b1, b2, b3⟩ := pts_43 _ _ _ _ _ h3
                refine ⟨by rw [(pts_40 _ _ _ _ _ h3).2]; exact n1, fun a ha => ?_, fun a ha => ?_⟩
                · rw [b1]
                  rcases n2 a ha with y | ⟨y1, y2, y3⟩
                  · exact Or.inl y
                  · exact Or.inr ⟨y1, y2, by rw [b2 _ (by omega)]; exact y3⟩
                · by_cases hz : a = m
                  · rw [hz]; exact b3 (n3 m (by omega))
                  · rw [b2 _ (by omega)]; exact n3 a ha
              · cases h
          · unfold a_knd3 at h
            simp only at h
            split at h
            · cases h
              exact ⟨n1, n2, n3⟩
            · cases h
theorem KPs_knds : ∀ (g i m j : Nat) (σ σ2 : e3_H), a_knds t n g i σ = .inr (j, σ2) → KPs σ m → (∃ m2, KPs σ2 m2) ∧ ∀ x : Int, x ≠ 10 → σ2 40 x = σ 40 x := by
  intro g
  induction g with
  | zero => intro i m j σ σ2 h; cases h
  | succ g ih =>
    intro i m j σ σ2 h hK
    unfold a_knds at h
    split at h
    · split at h
      · cases h
      · rename_i j1 σ1 h1
        obtain ⟨a1, a2⟩ := ih _ _ _ _ _ h (KPs_knd h1 hK)
        exact ⟨a1, fun x hx => (a2 x hx).trans ((knd_40 h1).2 x hx)⟩
    · cases h
      exact ⟨⟨m, hK⟩, fun _ _ => rfl⟩
end KPT
