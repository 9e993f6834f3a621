section NZP
variable {n m : Nat} {t : Int → Int} {r : Int}
theorem nz_np {σ : e3_H} {kd s : Int} (h : nz r σ) : nz r (a_npat σ kd s) := nz_eq h (by unfold a_npat; funext y; simp (disch := omega) only [e3_up_self, e3_up_ne]) (by unfold a_npat; funext y; simp (disch := omega) only [e3_up_self, e3_up_ne])
theorem nz_at {σ : e3_H} {p A T : Int} (h : nz r σ) : nz r (a_at σ p A T) := nz_eq h (by unfold a_at; funext y; simp (disch := omega) only [e3_up_self, e3_up_ne]) (by unfold a_at; funext y; simp (disch := omega) only [e3_up_self, e3_up_ne])
theorem nz_up {σ : e3_H} {a k v : Int} (h : nz r σ) (h6 : a ≠ 56) (h7 : a ≠ 57) : nz r (e3_up σ a k v) := nz_eq h (funext fun y => e3_up_ne (ne_1 h6.symm)) (funext fun y => e3_up_ne (ne_1 h7.symm))
theorem nz_beg {σ σ2 : e3_H} {s : Int} {mu op : Bool} {i j : Nat} (h : a_beg t n s mu i σ = .inr (j, σ2, op)) (hr : σ 40 27 = r) (hn : nz r σ) : nz r σ2 := by
  have cl : ∀ (kd A T : Int), nz r (a_at (a_npat σ kd s) (σ 40 16) A T) := fun kd A T => nz_at (nz_np hn)
  unfold a_beg at h
  split at h
  · cases h
  split at h
  · rename_i hty
    split at h
    · cases h
    · rename_i k σb hb
      cases h
      exact nz_at (nz_up (nz_bind (nz_np hn) (by unfold a_npat; simp (disch := omega) only [e3_up_self, e3_up_ne]; exact hr) (wo_nz hty) hb) (by decide) (by decide))
  · split at h
    · split at h
      · cases h
      · rename_i j' σb _ hb
        cases h
        obtain ⟨_, x, y, e⟩ := a_rng_ok hb
        rw [e]
        exact nz_up (nz_up (cl 1 0 0) (by decide) (by decide)) (by decide) (by decide)
    · split at h
      · cases h; exact cl _ _ _
      · split at h
        · cases h; exact cl _ _ _
        · split at h
          · cases h; exact cl _ _ _
          · split at h
            · cases h; exact cl _ _ _
            · split at h
              · split at h
                · split at h
                  · cases h
                  · cases h; exact cl _ _ _
                · cases h; exact cl _ _ _
              · split at h
                · cases h; exact cl _ _ _
                · cases h; exact cl _ _ _
theorem nz_into {σ : e3_H} {p last q : Int} (h : nz r σ) : nz r (a_into σ p last q) := nz_eq h (funext fun y => a_into_at 56 y (by decide) (by decide) (by decide)) (funext fun y => a_into_at 57 y (by decide) (by decide) (by decide))
theorem nz_as {σ1 σ2 : e3_H} {j j2 : Nat} {p p2 : Int} (h : a_as t n (.inr (j, σ1, p)) = .inr (j2, σ2, p2)) (hr : σ1 40 27 = r) (hn : nz r σ1) : nz r σ2 := by
  unfold a_as at h
  simp only at h
  split at h
  · split at h
    · rename_i hty
      split at h
      · cases h
      · rename_i k σ3 hb
        cases h
        exact nz_up (nz_bind hn hr (wo_nz hty) hb) (by decide) (by decide)
    · cases h
  · cases h
    exact hn
theorem nz_kids {g : Int → Nat → e3_H → a_R} {p kd : Int} (hg : ∀ s i σ j σ2 q, g s i σ = .inr (j, σ2, q) → p_inv σ m i → σ 40 16 ≤ (i : Int) → 0 ≤ s → s < 3 + m → a_pok m i σ j σ2 q) (hgw : ∀ s i σ j σ2 q, g s i σ = .inr (j, σ2, q) → p_inv σ m i → σ 40 16 ≤ (i : Int) → σ 40 27 = r → nz r σ → nz r σ2) (hk : 0 ≤ kd ∧ kd < m) :
    ∀ (rem jj : Nat) (last : Int) (i : Nat) (σ : e3_H) (j : Nat) (σ2 : e3_H) (p2 : Int), a_kids t n g p kd rem jj last i σ = .inr (j, σ2, p2) → p_inv σ m i → σ 40 16 ≤ (i : Int) → 0 ≤ p → p < σ 40 16 → (jj + rem : Int) ≤ σ 44 kd → σ 40 27 = r → nz r σ → nz r σ2 := by
  intro rem
  induction rem with
  | zero => intro jj last i σ j σ2 p2 h; cases h
  | succ rem ih =>
    intro jj last i σ j σ2 p2 h hp hs h0 h1 hr h27 hn
    unfold a_kids at h
    split at h
    · cases h
    · rename_i i2 σ3 q hq
      have hso := a_sort_in (jj := jj) hp hk (by omega)
      obtain ⟨b1, b2, b3, b4, b5, b6⟩ := hg _ _ _ _ _ _ hq hp hs hso.1 hso.2
      have w1 := hgw _ _ _ _ _ _ hq hp hs h27 hn
      have e27 : σ3 40 27 = r := by rw [b6.2.1 27 (by omega) (by omega)]; exact h27
      have pin : p_inv (a_into σ3 p last q) m i2 := p_into b5 (by omega) (by have := hp.2.1.1; omega)
      have e16 : a_into σ3 p last q 40 16 = σ3 40 16 := a_into_at 40 16 (by omega) (by omega) (by omega)
      split at h
      · split at h
        · cases h; exact nz_into w1
        · cases h
      · split at h
        · have e44 : a_into σ3 p last q 44 kd = σ 44 kd := by
            rw [a_into_at 44 kd (by omega) (by omega) (by omega), b6.2.2.1 44 (by omega) (by omega)]
          exact ih (jj + 1) q (i2 + 1) (a_into σ3 p last q) j σ2 p2 h (p_inv_le pin (by omega)) (by rw [e16]; omega) h0 (by rw [e16]; omega) (by rw [e44]; omega) (by rw [a_into_at 40 27 (by omega) (by omega) (by omega)]; exact e27) (nz_into w1)
        · cases h
theorem nz_alts {g : Bool → Nat → e3_H → a_R} {p pl b0 : Int} (hg : ∀ mu i σ j σ2 q, g mu i σ = .inr (j, σ2, q) → p_inv σ m i → σ 40 16 ≤ (i : Int) → a_pok m i σ j σ2 q) (hgw : ∀ mu i σ j σ2 q, g mu i σ = .inr (j, σ2, q) → p_inv σ m i → σ 40 16 ≤ (i : Int) → σ 40 27 = r → nz r σ → nz r σ2) (hb0 : 0 ≤ b0 ∧ b0 < 256) :
    ∀ (rem jj : Nat) (last fst : Int) (srt : Nat → Int) (un : Bool) (i : Nat) (σ : e3_H) (j : Nat) (σ2 : e3_H) (p2 : Int), a_alts t n g p pl b0 rem jj last fst srt un i σ = .inr (j, σ2, p2) → p_inv σ m i → σ 40 16 ≤ (i : Int) → 0 ≤ p → p < σ 40 16 → σ 40 27 = r → nz r σ → nz r σ2 := by
  intro rem
  induction rem with
  | zero => intro jj last fst srt un i σ j σ2 p2 h; cases h
  | succ rem ih =>
    intro jj last fst srt un i σ j σ2 p2 h hp hs h0 h1 h27 hn
    have hq : ∃ i2 σ3 q, g (decide (jj = 6)) i σ = .inr (i2, σ3, q) := by
      cases hz : g (decide (jj = 6)) i σ with
      | inl q => unfold a_alts at h; rw [hz] at h; cases h
      | inr y => exact ⟨y.1, y.2.1, y.2.2, rfl⟩
    obtain ⟨i2, σ3, q, hq⟩ := hq
    rw [a_alts_eq hq] at h
    obtain ⟨b1, b2, b3, b4, b5, b6⟩ := hg _ _ _ _ _ _ hq hp hs
    have w1 := hgw _ _ _ _ _ _ hq hp hs h27 hn
    have e27 : σ3 40 27 = r := by rw [b6.2.1 27 (by omega) (by omega)]; exact h27
    have pin : p_inv (a_into σ3 p last q) m i2 := p_into b5 (by omega) (by have := hp.2.1.1; omega)
    have e16 : a_into σ3 p last q 40 16 = σ3 40 16 := a_into_at 40 16 (by omega) (by omega) (by omega)
    have e27' : a_into σ3 p last q 40 27 = r := by rw [a_into_at 40 27 (by omega) (by omega) (by omega)]; exact e27
    split at h
    · exact ih (jj + 1) q _ _ _ (i2 + 1) _ j σ2 p2 h (p_inv_le (p_up31 pin hb0) (by omega)) (by simp (disch := omega) only [e3_up_self, e3_up_ne]; rw [e16]; omega) h0 (by simp (disch := omega) only [e3_up_self, e3_up_ne]; rw [e16]; omega) (by simp (disch := omega) only [e3_up_self, e3_up_ne]; exact e27') (nz_up (nz_into w1) (by decide) (by decide))
    · split at h
      · by_cases hun : a_un ((jj : Int) + 1) (a_into σ3 p last q) b0 fst srt un = true
        · rw [if_pos hun] at h; cases h
        · rw [if_neg hun] at h
          cases h
          exact nz_eq (nz_up (a := 40) (k := 31) (v := a_fst ((jj : Int) + 1) (a_into σ3 p last q) fst) (nz_into w1) (by decide) (by decide)) (funext fun y => a_srt_at 8 56 y (by decide)) (funext fun y => a_srt_at 8 57 y (by decide))
      · cases h
theorem nz_pat : ∀ (f : Nat) (s : Int) (d : Nat) (mu : Bool) (i : Nat) (σ : e3_H) (j : Nat) (σ2 : e3_H) (p : Int), a_pat t n f s d mu i σ = .inr (j, σ2, p) → p_inv σ m i → σ 40 16 ≤ (i : Int) → σ 40 27 = r → nz r σ → nz r σ2 := by
  intro f
  induction f with
  | zero => intro s d mu i σ j σ2 p h; cases h
  | succ f ih =>
    intro s d mu i σ j σ2 p h hp hst h27 hn
    rw [a_pat_beg] at h
    split at h
    · cases h
    · rename_i j1 σ1 op hb
      obtain ⟨b1, b2, b3, b4, b5, b6, b7, b8, b9, b10⟩ := a_beg_ok hb hp hst
      have n1 := nz_beg hb h27 hn
      have hp0 := hp.2.1.1
      have e27 : σ1 40 27 = r := by rw [b4.2.1 27 (by omega) (by omega)]; exact h27
      by_cases ho : op = true
      · rw [if_pos ho] at h
        have hr : ∃ j3 σ3 p3, a_rest t n f s d i σ j1 σ1 = .inr (j3, σ3, p3) := by
          cases hz : a_rest t n f s d i σ j1 σ1 with
          | inl q => rw [hz] at h; cases h
          | inr y => exact ⟨y.1, y.2.1, y.2.2, rfl⟩
        obtain ⟨j3, σ3, p3, hr⟩ := hr
        rw [hr] at h
        have hk : a_kok m (σ 40 16) j1 σ1 j3 σ3 p3 ∧ nz r σ3 := by
          unfold a_rest at hr
          rcases (b10 ho).2 with ⟨c1, c2, c3, c4, c5, c6⟩ | ⟨c1, c2⟩
          · rw [if_pos c1] at hr
            have e44 : σ1 44 = σ 44 := b4.2.2.1 44 (by omega) (by omega)
            have h44 := (hp.1.2.2.2.2 (a_fd (σ 42) (x_wo t n i) (a_nk σ)).toNat (by omega)).1
            rw [Int.toNat_of_nonneg c4] at h44
            have hcnt : ((0 : Nat) + (σ 44 (a_fd (σ 42) (x_wo t n i) (a_nk σ))).toNat : Int) ≤ σ1 44 (a_fd (σ 42) (x_wo t n i) (a_nk σ)) := by rw [e44, Int.toNat_of_nonneg h44]; omega
            have hgk : ∀ s2 i2 σ2 j2 σ4 q, (fun s2 i2 σ2 => a_pat t n f s2 (d + 1) false i2 σ2) s2 i2 σ2 = .inr (j2, σ4, q) → p_inv σ2 m i2 → σ2 40 16 ≤ (i2 : Int) → 0 ≤ s2 → s2 < 3 + m → a_pok m i2 σ2 j2 σ4 q := fun s2 i2 σ2 j2 σ4 q hq g1 g2 _ _ => a_pat_ok f s2 (d + 1) false i2 σ2 j2 σ4 q hq g1 g2
            exact ⟨a_kids_ok (m := m) hgk ⟨c4, c5⟩ _ _ _ _ _ _ _ _ hr b3 (by omega) hp0 (by omega) (Or.inl rfl) hcnt, nz_kids (m := m) hgk (fun s2 i2 σ2 j2 σ4 q hq g1 g2 g3 g4 => ih s2 (d + 1) false i2 σ2 j2 σ4 q hq g1 g2 g3 g4) ⟨c4, c5⟩ _ _ _ _ _ _ _ _ hr b3 (by omega) hp0 (by omega) hcnt e27 n1⟩
          · rw [if_neg (by omega)] at hr
            have h31 := hp.2.2.2.2.1
            have hga : ∀ mu2 i2 σ2 j2 σ4 q, (fun mu2 i2 σ2 => a_pat t n f s (d + 1) mu2 i2 σ2) mu2 i2 σ2 = .inr (j2, σ4, q) → p_inv σ2 m i2 → σ2 40 16 ≤ (i2 : Int) → a_pok m i2 σ2 j2 σ4 q := fun mu2 i2 σ2 j2 σ4 q hq g1 g2 => a_pat_ok f s (d + 1) mu2 i2 σ2 j2 σ4 q hq g1 g2
            exact ⟨a_alts_ok (m := m) h31 hga _ _ _ _ _ _ _ _ _ _ _ hr (by omega) b3 (by omega) hp0 (by omega) (Or.inl rfl), nz_alts (m := m) hga (fun mu2 i2 σ2 j2 σ4 q hq g1 g2 g3 g4 => ih s (d + 1) mu2 i2 σ2 j2 σ4 q hq g1 g2 g3 g4) h31 _ _ _ _ _ _ _ _ _ _ _ hr b3 (by omega) hp0 (by omega) e27 n1⟩
        obtain ⟨⟨k1, k2, k3, k4, k5, k6⟩, n2⟩ := hk
        exact nz_as h (by rw [k6.2.1 27 (by omega) (by omega)]; exact e27) n2
      · rw [if_neg ho] at h
        exact nz_as h e27 n1
end NZP
