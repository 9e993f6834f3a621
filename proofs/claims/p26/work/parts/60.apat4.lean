section AP4
variable {σ : e3_H} {n i m : Nat} {t : Int → Int}
/-- what holds behind the rest of an open pattern -/
def a_kok (m : Nat) (p : Int) (i : Nat) (σ : e3_H) (j : Nat) (σ2 : e3_H) (p2 : Int) : Prop := i < j ∧ p2 = p ∧ σ 40 16 ≤ σ2 40 16 ∧ σ2 40 16 ≤ (j : Int) ∧ p_inv σ2 m j ∧ a_fr p σ σ2
theorem a_as_ok {j j2 : Nat} {p p2 p0 : Int} {σ1 σ2 : e3_H} (h : a_as t n (.inr (j, σ1, p)) = .inr (j2, σ2, p2)) (hp : p_inv σ1 m j) (h0 : p0 ≤ p) : p2 = p ∧ j ≤ j2 ∧ σ2 40 16 = σ1 40 16 ∧ p_inv σ2 m j2 ∧ a_fr p0 σ1 σ2 := by
  unfold a_as at h
  simp only at h
  split at h
  · split at h
    · split at h
      · cases h
      · rename_i k σ3 hb
        cases h
        obtain ⟨u1, u2, u3, u4, u5, u6⟩ := p_bind hp hb
        exact ⟨rfl, by omega, by simp (disch := omega) only [e3_up_self, e3_up_ne]; exact u2, p_inv_le (p_inv_up u1 (by omega)) (by omega), fr_up (fr_bind hp hb) (by omega)⟩
    · cases h
  · cases h
    exact ⟨rfl, by omega, rfl, hp, fr_rf _ _⟩
theorem a_sort_in {kd : Int} {jj : Nat} (hp : p_inv σ m i) (hk : 0 ≤ kd ∧ kd < m) (hj : (jj : Int) < σ 44 kd) : 0 ≤ σ 45 (4 * kd + jj) ∧ σ 45 (4 * kd + jj) < 3 + m := by
  obtain ⟨k, e⟩ : ∃ k : Nat, kd = (k : Int) := ⟨_, (Int.toNat_of_nonneg hk.1).symm⟩
  subst e
  exact (hp.1.2.2.2.2 k (by omega)).2.2 jj hj
theorem a_kids_ok {g : Int → Nat → e3_H → a_R} {p kd : Int} (hg : ∀ s i σ j σ2 q, g s i σ = .inr (j, σ2, q) → p_inv σ m i → σ 40 16 ≤ (i : Int) → 0 ≤ s → s < 3 + m → a_pok m i σ j σ2 q) (hk : 0 ≤ kd ∧ kd < m) :
    ∀ (rem jj : Nat) (last : Int) (i : Nat) (σ : e3_H) (j : Nat) (σ2 : e3_H) (p2 : Int), a_kids t n g p kd rem jj last i σ = .inr (j, σ2, p2) → p_inv σ m i → σ 40 16 ≤ (i : Int) → 0 ≤ p → p < σ 40 16 → (last = -4 ∨ p ≤ last) → (jj + rem : Int) ≤ σ 44 kd → a_kok m p i σ j σ2 p2 := by
  intro rem
  induction rem with
  | zero => intro jj last i σ j σ2 p2 h; cases h
  | succ rem ih =>
    intro jj last i σ j σ2 p2 h hp hs h0 h1 hl hr
    unfold a_kids at h
    split at h
    · cases h
    · rename_i i2 σ3 q hq
      have hso := a_sort_in (jj := jj) hp hk (by omega)
      obtain ⟨b1, b2, b3, b4, b5, b6⟩ := hg _ _ _ _ _ _ hq hp hs hso.1 hso.2
      have pin : p_inv (a_into σ3 p last q) m i2 := p_into b5 (by omega) (by have := hp.2.1.1; omega)
      have fin : a_fr p σ (a_into σ3 p last q) := fr_into (fr_tr (fr_rf p σ) b6 (by omega)) (by omega) hl
      have e16 : a_into σ3 p last q 40 16 = σ3 40 16 := a_into_at 40 16 (by omega) (by omega) (by omega)
      split at h
      · split at h
        · cases h
          exact ⟨by omega, rfl, by rw [e16]; omega, by rw [e16]; omega, p_inv_le pin (by omega), fin⟩
        · cases h
      · rename_i hrem
        split at h
        · have e44 : a_into σ3 p last q 44 kd = σ 44 kd := by
            rw [a_into_at 44 kd (by omega) (by omega) (by omega), b6.2.2.1 44 (by omega) (by omega)]
          obtain ⟨c1, c2, c3, c4, c5, c6⟩ := ih (jj + 1) q (i2 + 1) (a_into σ3 p last q) j σ2 p2 h (p_inv_le pin (by omega)) (by rw [e16]; omega) h0 (by rw [e16]; omega) (by omega) (by rw [e44]; omega)
          exact ⟨by omega, c2, by rw [e16] at c3; omega, c4, c5, fr_tr fin c6 (by omega)⟩
        · cases h
theorem a_alts_ok {g : Bool → Nat → e3_H → a_R} {p pl b0 : Int} (hb0 : 0 ≤ b0 ∧ b0 < 256) (hg : ∀ mu i σ j σ2 q, g mu i σ = .inr (j, σ2, q) → p_inv σ m i → σ 40 16 ≤ (i : Int) → a_pok m i σ j σ2 q) :
    ∀ (rem jj : Nat) (last fst : Int) (srt : Nat → Int) (un : Bool) (i : Nat) (σ : e3_H) (j : Nat) (σ2 : e3_H) (p2 : Int), a_alts t n g p pl b0 rem jj last fst srt un i σ = .inr (j, σ2, p2) → (0 ≤ fst ∧ fst < 256) → p_inv σ m i → σ 40 16 ≤ (i : Int) → 0 ≤ p → p < σ 40 16 → (last = -4 ∨ p ≤ last) → a_kok m p i σ j σ2 p2 := by
  intro rem
  induction rem with
  | zero => intro jj last fst srt un i σ j σ2 p2 h; cases h
  | succ rem ih =>
    intro jj last fst srt un i σ j σ2 p2 h hf hp hs h0 h1 hl
    unfold a_alts at h
    split at h
    · cases h
    · rename_i i2 σ3 q hq
      obtain ⟨b1, b2, b3, b4, b5, b6⟩ := hg _ _ _ _ _ _ hq hp hs
      have pin : p_inv (a_into σ3 p last q) m i2 := p_into b5 (by omega) (by have := hp.2.1.1; omega)
      have fin : a_fr p σ (a_into σ3 p last q) := fr_into (fr_tr (fr_rf p σ) b6 (by omega)) (by omega) hl
      have e16 : a_into σ3 p last q 40 16 = σ3 40 16 := a_into_at 40 16 (by omega) (by omega) (by omega)
      have hf2 : 0 ≤ (if jj = 0 then a_into σ3 p last q 40 31 else fst) ∧ (if jj = 0 then a_into σ3 p last q 40 31 else fst) < 256 := by
        split
        · exact pin.2.2.2.2.1
        · exact hf
      split at h
      · obtain ⟨c1, c2, c3, c4, c5, c6⟩ := ih (jj + 1) q _ _ _ (i2 + 1) _ j σ2 p2 h hf2 (p_inv_le (p_up31 pin hb0) (by omega)) (by simp (disch := omega) only [e3_up_self, e3_up_ne]; rw [e16]; omega) h0 (by simp (disch := omega) only [e3_up_self, e3_up_ne]; rw [e16]; omega) (by omega)
        have e16' : (e3_up (a_into σ3 p last q) 40 31 b0) 40 16 = σ3 40 16 := by simp (disch := omega) only [e3_up_self, e3_up_ne]; exact e16
        rw [e16'] at c3
        exact ⟨by omega, c2, by omega, c4, c5, fr_tr (fr_31 fin) c6 (by omega)⟩
      · split at h
        · by_cases hun : (if jj = 0 then false else un || a_unl (a_into σ3 p last q) b0 fst srt 8) = true
          · rw [if_pos hun] at h; cases h
          · rw [if_neg hun] at h
            cases h
            refine ⟨by omega, rfl, ?_, ?_, p_inv_le (p_srt (p_up31 pin hf2) 8) (by omega), fr_srt (fr_31 fin) 8 (by omega)⟩
            · rw [a_srt_at 8 40 16 (by omega), e3_up_ne (by omega), e16]; omega
            · rw [a_srt_at 8 40 16 (by omega), e3_up_ne (by omega), e16]; omega
        · cases h
theorem a_pat_ok : ∀ (f : Nat) (s : Int) (d : Nat) (mu : Bool) (i : Nat) (σ : e3_H) (j : Nat) (σ2 : e3_H) (p : Int), a_pat t n f s d mu i σ = .inr (j, σ2, p) → p_inv σ m i → σ 40 16 ≤ (i : Int) → a_pok m i σ j σ2 p := by
  intro f
  induction f with
  | zero => intro s d mu i σ j σ2 p h; cases h
  | succ f ih =>
    intro s d mu i σ j σ2 p h hp hs
    rw [a_pat_beg] at h
    split at h
    · cases h
    · rename_i j1 σ1 op hb
      obtain ⟨b1, b2, b3, b4, b5, b6, b7, b8, b9, b10⟩ := a_beg_ok hb hp hs
      have hp0 := hp.2.1.1
      by_cases ho : op = true
      · rw [if_pos ho] at h
        have hr : ∃ j3 σ3 p3, a_rest t n f s d i σ j1 σ1 = .inr (j3, σ3, p3) := by
          cases hz : a_rest t n f s d i σ j1 σ1 with
          | inl q => rw [hz] at h; cases h
          | inr y => exact ⟨y.1, y.2.1, y.2.2, rfl⟩
        obtain ⟨j3, σ3, p3, hr⟩ := hr
        rw [hr] at h
        have hk : a_kok m (σ 40 16) j1 σ1 j3 σ3 p3 := by
          unfold a_rest at hr
          rcases (b10 ho).2 with ⟨c1, c2, c3, c4, c5, c6⟩ | ⟨c1, c2⟩
          · rw [if_pos c1] at hr
            have e44 : σ1 44 = σ 44 := b4.2.2.1 44 (by omega) (by omega)
            have h44 := (hp.1.2.2.2.2 (a_fd (σ 42) (x_wo t n i) (a_nk σ)).toNat (by omega)).1
            rw [Int.toNat_of_nonneg c4] at h44
            exact a_kids_ok (fun s2 i2 σ2 j2 σ4 q hq g1 g2 _ _ => ih s2 (d + 1) false i2 σ2 j2 σ4 q hq g1 g2) ⟨c4, c5⟩ _ _ _ _ _ _ _ _ hr b3 (by omega) hp0 (by omega) (Or.inl rfl) (by rw [e44, Int.toNat_of_nonneg h44]; omega)
          · rw [if_neg (by omega)] at hr
            exact a_alts_ok hp.2.2.2.2.1 (fun mu2 i2 σ2 j2 σ4 q hq g1 g2 => ih s (d + 1) mu2 i2 σ2 j2 σ4 q hq g1 g2) _ _ _ _ _ _ _ _ _ _ _ hr (by omega) b3 (by omega) hp0 (by omega) (Or.inl rfl)
        obtain ⟨k1, k2, k3, k4, k5, k6⟩ := hk
        obtain ⟨d1, d2, d3, d4, d5⟩ := a_as_ok (p0 := σ 40 16) h k5 (by omega)
        exact ⟨by omega, by omega, by omega, by omega, d4, fr_tr (fr_tr b4 k6 (by omega)) d5 (by omega)⟩
      · rw [if_neg ho] at h
        obtain ⟨d1, d2, d3, d4, d5⟩ := a_as_ok (p0 := σ 40 16) h b3 (by omega)
        exact ⟨by omega, by omega, by omega, by omega, d4, fr_tr b4 d5 (by omega)⟩
end AP4
