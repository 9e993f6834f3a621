section WTQ
variable {n m : Nat} {t : Int → Int}
theorem npat_46 {σ : e3_H} {kd s : Int} : a_npat σ kd s 46 (σ 40 16) = kd := by
  unfold a_npat
  simp (disch := omega) only [e3_up_self, e3_up_ne]
theorem at_46 {σ : e3_H} {p A T x : Int} : a_at σ p A T 46 x = σ 46 x := by
  unfold a_at
  simp (disch := omega) only [e3_up_self, e3_up_ne]
theorem beg_46 {σ σ2 : e3_H} {s : Int} {mu op : Bool} {i j : Nat} (h : a_beg t n s mu i σ = .inr (j, σ2, op)) : mu = false ∧ (op = false → σ2 46 (σ 40 16) ≠ 6) := by
  unfold a_beg at h
  split at h
  · cases h
  rename_i hno
  have hmu : mu = false := by
    cases mu with
    | false => rfl
    | true => exact absurd (Or.inr rfl) hno
  refine ⟨hmu, fun ho => ?_⟩
  have cl : ∀ (kd A T : Int), kd ≠ 6 → a_at (a_npat σ kd s) (σ 40 16) A T 46 (σ 40 16) ≠ 6 := fun kd A T hk => by rw [at_46, npat_46]; exact hk
  split at h
  · split at h
    · cases h
    · rename_i k σb hb
      cases h
      rw [at_46, e3_up_ne (ne_1 (by decide)), (binds_at hb).1 46 _ (by decide) (by decide) (by decide) (by decide), npat_46]
      decide
  · split at h
    · split at h
      · cases h
      · rename_i j' σb _ hb
        cases h
        obtain ⟨_, x, y, e⟩ := a_rng_ok hb
        rw [e, e3_up_ne (ne_1 (by decide)), e3_up_ne (ne_1 (by decide))]
        exact cl 1 0 0 (by decide)
    · split at h
      · cases h; exact cl _ _ _ (by decide)
      · split at h
        · cases h; exact cl _ _ _ (by decide)
        · split at h
          · cases h; exact cl _ _ _ (by decide)
          · split at h
            · cases h; exact cl _ _ _ (by decide)
            · split at h
              · split at h
                · split at h
                  · cases h
                  · cases h; cases ho
                · cases h; exact cl _ _ _ (by decide)
              · split at h
                · cases h; cases ho
                · cases h; exact cl _ _ _ (by decide)
/-- a pattern that was read is a tree -/
theorem wt_pat : ∀ (f : Nat) (s : Int) (d : Nat) (mu : Bool) (i : Nat) (σ : e3_H) (j : Nat) (σ2 : e3_H) (p : Int), a_pat t n f s d mu i σ = .inr (j, σ2, p) → p_inv σ m i → σ 40 16 ≤ (i : Int) → ∀ k : Nat, d + k = 6 → wt σ2 k (σ2 40 16) p ∧ σ2 52 p = -4 := by
  intro f
  induction f with
  | zero => intro s d mu i σ j σ2 p h; cases h
  | succ f ih =>
    intro s d mu i σ j σ2 p h hp hst k hk
    rw [a_pat_beg] at h
    split at h
    · cases h
    · rename_i j1 σ1 op hb
      obtain ⟨b1, b2, b3, b4, b5, b6, b7, b8, b9, b10⟩ := a_beg_ok hb hp hst
      obtain ⟨bm, bo⟩ := beg_46 hb
      have hd : d < 6 := by
        by_cases hd : 6 ≤ d
        · rw [decide_eq_true hd, Bool.or_true] at bm; cases bm
        · omega
      have hp0 := hp.2.1.1
      obtain ⟨k', rfl⟩ : ∃ k', k = k' + 1 := ⟨k - 1, by omega⟩
      have fin : ∀ (j3 : Nat) (σ3 : e3_H), a_as t n (.inr (j3, σ3, σ 40 16)) = .inr (j, σ2, p) → σ 40 16 < σ3 40 16 → wt σ3 (k' + 1) (σ3 40 16) (σ 40 16) → σ3 52 (σ 40 16) = -4 → wt σ2 (k' + 1) (σ2 40 16) p ∧ σ2 52 p = -4 := by
        intro j3 σ3 h h1 h2 h3
        obtain ⟨e1, e2, e3⟩ := as_at h
        rw [e1, e3, e2 52 _ (by decide) (by decide) (by decide) (by decide) (by decide)]
        exact ⟨wt_keep _ _ _ h2 h1 (fun a x ha _ _ => e2 a x (by omega) (by omega) (by omega) (by omega) (by omega)) (fun x _ _ => e2 52 x (by decide) (by decide) (by decide) (by decide) (by decide)), h3⟩
      by_cases ho : op = true
      · rw [if_pos ho] at h
        have hr : ∃ j3 σ3 p3, a_rest t n f s d i σ j1 σ1 = .inr (j3, σ3, p3) := by
          cases hz : a_rest t n f s d i σ j1 σ1 with
          | inl q => rw [hz] at h; cases h
          | inr y => exact ⟨y.1, y.2.1, y.2.2, rfl⟩
        obtain ⟨j3, σ3, p3, hr⟩ := hr
        rw [hr] at h
        have hJ0 : wJ σ1 k' (σ 40 16) (-4) 0 := Or.inl ⟨rfl, b6, b9, rfl⟩
        have hk : a_kok m (σ 40 16) j1 σ1 j3 σ3 p3 ∧ (∃ last2 c2, last2 ≠ -4 ∧ wJ σ3 k' (σ 40 16) last2 c2 ∧ (σ3 46 (σ 40 16) = 5 ∧ c2 ≤ 4 ∨ σ3 46 (σ 40 16) = 6)) ∧ σ3 52 (σ 40 16) = -4 := by
          unfold a_rest at hr
          rcases (b10 ho).2 with ⟨c1, c2, c3, c4, c5, c6⟩ | ⟨c1, c2⟩
          · rw [if_pos c1] at hr
            have e44 : σ1 44 = σ 44 := b4.2.2.1 44 (by omega) (by omega)
            have h44 := (hp.1.2.2.2.2 (a_fd (σ 42) (x_wo t n i) (a_nk σ)).toNat (by omega)).1
            rw [Int.toNat_of_nonneg c4] at h44
            have hcnt : ((0 : Nat) + (σ 44 (a_fd (σ 42) (x_wo t n i) (a_nk σ))).toNat : Int) ≤ σ1 44 (a_fd (σ 42) (x_wo t n i) (a_nk σ)) := by rw [e44, Int.toNat_of_nonneg h44]; omega
            have hgk : ∀ s2 i2 σ2 j2 σ4 q, (fun s2 i2 σ2 => a_pat t n f s2 (d + 1) false i2 σ2) s2 i2 σ2 = .inr (j2, σ4, q) → p_inv σ2 m i2 → σ2 40 16 ≤ (i2 : Int) → 0 ≤ s2 → s2 < 3 + m → a_pok m i2 σ2 j2 σ4 q := fun s2 i2 σ2 j2 σ4 q hq g1 g2 _ _ => a_pat_ok f s2 (d + 1) false i2 σ2 j2 σ4 q hq g1 g2
            obtain ⟨last2, c2', l1, lc, l2⟩ := wt_kids (m := m) hgk (fun s2 i2 σ2 j2 σ4 q hq g1 g2 => ih s2 (d + 1) false i2 σ2 j2 σ4 q hq g1 g2 k' (by omega)) ⟨c4, c5⟩ _ _ _ _ _ _ _ _ hr b3 (by omega) hp0 (by omega) hcnt hJ0
            refine ⟨a_kids_ok (m := m) hgk ⟨c4, c5⟩ _ _ _ _ _ _ _ _ hr b3 (by omega) hp0 (by omega) (Or.inl rfl) hcnt, ⟨last2, c2', l1, l2, Or.inl ⟨?_, lc⟩⟩, ?_⟩
            · rw [own_kids (m := m) hgk ⟨c4, c5⟩ _ _ _ _ _ _ _ _ hr b3 (by omega) hp0 (by omega) (Or.inl rfl) hcnt 46 (by omega) (by omega) (by omega) (by omega)]
              exact c2
            · rw [own_kids (m := m) hgk ⟨c4, c5⟩ _ _ _ _ _ _ _ _ hr b3 (by omega) hp0 (by omega) (Or.inl rfl) hcnt 52 (by omega) (by omega) (by omega) (by omega)]
              exact b7
          · rw [if_neg (by omega)] at hr
            have h31 := hp.2.2.2.2.1
            have hga : ∀ mu2 i2 σ2 j2 σ4 q, (fun mu2 i2 σ2 => a_pat t n f s (d + 1) mu2 i2 σ2) mu2 i2 σ2 = .inr (j2, σ4, q) → p_inv σ2 m i2 → σ2 40 16 ≤ (i2 : Int) → a_pok m i2 σ2 j2 σ4 q := fun mu2 i2 σ2 j2 σ4 q hq g1 g2 => a_pat_ok f s (d + 1) mu2 i2 σ2 j2 σ4 q hq g1 g2
            obtain ⟨last2, c2', l1, l2⟩ := wt_alts (m := m) hga (fun mu2 i2 σ2 j2 σ4 q hq g1 g2 => ih s (d + 1) mu2 i2 σ2 j2 σ4 q hq g1 g2 k' (by omega)) h31 _ _ _ _ _ _ _ _ _ _ _ hr b3 (by omega) hp0 (by omega) hJ0
            refine ⟨a_alts_ok (m := m) h31 hga _ _ _ _ _ _ _ _ _ _ _ hr (by omega) b3 (by omega) hp0 (by omega) (Or.inl rfl), ⟨last2, c2', l1, l2, Or.inr ?_⟩, ?_⟩
            · rw [own_alts (m := m) hga h31 _ _ _ _ _ _ _ _ _ _ _ hr b3 (by omega) hp0 (by omega) (Or.inl rfl) 46 (by omega) (by omega) (by omega) (by omega)]
              exact c2
            · rw [own_alts (m := m) hga h31 _ _ _ _ _ _ _ _ _ _ _ hr b3 (by omega) hp0 (by omega) (Or.inl rfl) 52 (by omega) (by omega) (by omega) (by omega)]
              exact b7
        obtain ⟨⟨k1, k2, k3, k4, k5, k6⟩, ⟨last2, c2, l1, l2, e46⟩, e52⟩ := hk
        subst k2
        exact fin j3 σ3 h (by omega) (wJ_end l2 l1 e46) e52
      · rw [if_neg ho] at h
        refine fin j1 σ1 h (by omega) ⟨[], b6, fun c hc => absurd hc (List.not_mem_nil), b9, fun hz => absurd rfl hz, fun h6 => ?_, fun _ => Nat.zero_le _⟩ b7
        exact absurd h6 (bo (by cases op with | false => rfl | true => exact absurd rfl ho))
end WTQ
