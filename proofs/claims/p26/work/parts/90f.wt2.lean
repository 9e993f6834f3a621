theorem wJ_keep {σ σ2 : e3_H} {k : Nat} {p last : Int} {cn : Nat} (h : wJ σ k p last cn) (e : ∀ a x : Int, (46 ≤ a ∧ a ≤ 52) ∨ a = 55 → σ2 a x = σ a x) (e16 : σ2 40 16 = σ 40 16) (ek : e_k σ σ2) : wJ σ2 k p last cn := by
  rcases h with ⟨l1, l2, l3, l9⟩ | ⟨L0, l9, l1, ⟨l2, l3, l4⟩, l5, l6, l7⟩
  · exact Or.inl ⟨l1, by rw [e 51 p (by omega)]; exact l2, by rw [e 55 p (by omega)]; exact l3, l9⟩
  · refine Or.inr ⟨L0, l9, fun c hc => ?_, ⟨l2, by omega, ?_⟩, ?_, ?_, chs_keep l7 (fun a a1 a2 => e a p (by omega)) (fun c _ => e 47 c (by omega)) ek.2.1⟩
    · obtain ⟨m1, m2, m3⟩ := l1 c hc
      exact ⟨m1, m2, wt_keep k last c m3 m2 (fun a x ha _ _ => e a x (by omega)) (fun x _ _ => e 52 x (by omega)) ek⟩
    · rw [e16]
      exact wt_keep k _ last l4 l3 (fun a x ha _ _ => e a x (by omega)) (fun x _ _ => e 52 x (by omega)) ek
    · rw [e 51 p (by omega)]
      exact ach_keep _ _ l5 (fun c _ => e 52 c (by omega))
    · rw [e 55 p (by omega), e 46 p (by omega), wfL_keep (σ := σ) _ (fun c _ => e 55 c (by omega))]
      exact l6
section WTP
variable {n m : Nat} {t : Int → Int}
theorem wt_kids {k : Nat} {g : Int → Nat → e3_H → a_R} {p kd : Int} (hg : ∀ s i σ j σ2 q, g s i σ = .inr (j, σ2, q) → p_inv σ m i → σ 40 16 ≤ (i : Int) → 0 ≤ s → s < 3 + m → a_pok m i σ j σ2 q) (hgw : ∀ s i σ j σ2 q, g s i σ = .inr (j, σ2, q) → p_inv σ m i → σ 40 16 ≤ (i : Int) → 0 ≤ s → wt σ2 k (σ2 40 16) q ∧ σ2 52 q = -4 ∧ σ2 47 q = s) (hk : 0 ≤ kd ∧ kd < m) :
    ∀ (rem jj : Nat) (last : Int) (i : Nat) (σ : e3_H) (j : Nat) (σ2 : e3_H) (p2 : Int), a_kids t n g p kd rem jj last i σ = .inr (j, σ2, p2) → p_inv σ m i → σ 40 16 ≤ (i : Int) → 0 ≤ p → p < σ 40 16 → (jj + rem : Int) = σ 44 kd → σ 46 p = 5 → σ 48 p = kd → wJ σ k p last jj → ∃ (last2 : Int) (c2 : Nat), last2 ≠ -4 ∧ c2 ≤ 4 ∧ (c2 : Int) = σ 44 kd ∧ wJ σ2 k p last2 c2 := by
  intro rem
  induction rem with
  | zero => intro jj last i σ j σ2 p2 h; cases h
  | succ rem ih =>
    intro jj last i σ j σ2 p2 h hp hs h0 h1 hr h46 h48 hJ
    unfold a_kids at h
    split at h
    · cases h
    · rename_i i2 σ3 q hq
      have hso := a_sort_in (jj := jj) hp hk (by omega)
      have h44 := (hp.1.2.2.2.2 kd.toNat (by omega)).2.1
      rw [Int.toNat_of_nonneg hk.1] at h44
      obtain ⟨b1, b2, b3, b4, b5, b6⟩ := hg _ _ _ _ _ _ hq hp hs hso.1 hso.2
      obtain ⟨w1, w2, w3⟩ := hgw _ _ _ _ _ _ hq hp hs hso.1
      have pin : p_inv (a_into σ3 p last q) m i2 := p_into b5 (by omega) (by have := hp.2.1.1; omega)
      have e16 : a_into σ3 p last q 40 16 = σ3 40 16 := a_into_at 40 16 (by omega) (by omega) (by omega)
      have hk3 : e_k σ σ3 := ⟨fun x => by rw [b6.2.2.1 44 (by omega) (by omega)], fun x => by rw [b6.2.2.1 45 (by omega) (by omega)], b6.2.1 10 (by omega) (by omega)⟩
      have hJ2 := wJ_into hJ h0 h1 b2 (by omega) (fun a x z1 z2 z3 => b6.2.2.2.1 a x z1 z2 z3) w1 w2 hk3 ⟨fun z => by omega, fun _ => by rw [w3, h48]⟩
      have g46 : a_into σ3 p last q 46 p = 5 := by rw [a_into_at 46 p (by omega) (by omega) (by omega), b6.2.2.2.1 46 p (by omega) (by omega) h1]; exact h46
      have g48 : a_into σ3 p last q 48 p = kd := by rw [a_into_at 48 p (by omega) (by omega) (by omega), b6.2.2.2.1 48 p (by omega) (by omega) h1]; exact h48
      split at h
      · split at h
        · cases h; exact ⟨q, jj + 1, by omega, by have := h44; omega, by omega, hJ2⟩
        · cases h
      · split at h
        · have e44 : a_into σ3 p last q 44 kd = σ 44 kd := by
            rw [a_into_at 44 kd (by omega) (by omega) (by omega), b6.2.2.1 44 (by omega) (by omega)]
          obtain ⟨x1, x2, x3, x4, x5, x6⟩ := ih (jj + 1) q (i2 + 1) (a_into σ3 p last q) j σ2 p2 h (p_inv_le pin (by omega)) (by rw [e16]; omega) h0 (by rw [e16]; omega) (by rw [e44]; omega) g46 g48 hJ2
          exact ⟨x1, x2, x3, x4, by rw [x5, e44], x6⟩
        · cases h
theorem wt_alts {k : Nat} {g : Bool → Nat → e3_H → a_R} {p pl b0 s0 : Int} (hg : ∀ mu i σ j σ2 q, g mu i σ = .inr (j, σ2, q) → p_inv σ m i → σ 40 16 ≤ (i : Int) → a_pok m i σ j σ2 q) (hgw : ∀ mu i σ j σ2 q, g mu i σ = .inr (j, σ2, q) → p_inv σ m i → σ 40 16 ≤ (i : Int) → wt σ2 k (σ2 40 16) q ∧ σ2 52 q = -4 ∧ σ2 47 q = s0) (hb0 : 0 ≤ b0 ∧ b0 < 256) :
    ∀ (rem jj : Nat) (last fst : Int) (srt : Nat → Int) (un : Bool) (i : Nat) (σ : e3_H) (j : Nat) (σ2 : e3_H) (p2 : Int), a_alts t n g p pl b0 rem jj last fst srt un i σ = .inr (j, σ2, p2) → p_inv σ m i → σ 40 16 ≤ (i : Int) → 0 ≤ p → p < σ 40 16 → σ 46 p = 6 → σ 47 p = s0 → wJ σ k p last jj → ∃ last2 c2, last2 ≠ -4 ∧ wJ σ2 k p last2 c2 := by
  intro rem
  induction rem with
  | zero => intro jj last fst srt un i σ j σ2 p2 h; cases h
  | succ rem ih =>
    intro jj last fst srt un i σ j σ2 p2 h hp hs h0 h1 h46 h47 hJ
    have hq : ∃ i2 σ3 q, g (decide (jj = 6)) i σ = .inr (i2, σ3, q) := by
      cases hz : g (decide (jj = 6)) i σ with
      | inl q => unfold a_alts at h; rw [hz] at h; cases h
      | inr y => exact ⟨y.1, y.2.1, y.2.2, rfl⟩
    obtain ⟨i2, σ3, q, hq⟩ := hq
    rw [a_alts_eq hq] at h
    obtain ⟨b1, b2, b3, b4, b5, b6⟩ := hg _ _ _ _ _ _ hq hp hs
    obtain ⟨w1, w2, w3⟩ := hgw _ _ _ _ _ _ hq hp hs
    have pin : p_inv (a_into σ3 p last q) m i2 := p_into b5 (by omega) (by have := hp.2.1.1; omega)
    have e16 : a_into σ3 p last q 40 16 = σ3 40 16 := a_into_at 40 16 (by omega) (by omega) (by omega)
    have hk3 : e_k σ σ3 := ⟨fun x => by rw [b6.2.2.1 44 (by omega) (by omega)], fun x => by rw [b6.2.2.1 45 (by omega) (by omega)], b6.2.1 10 (by omega) (by omega)⟩
    have hJ2 := wJ_into hJ h0 h1 b2 (by omega) (fun a x z1 z2 z3 => b6.2.2.2.1 a x z1 z2 z3) w1 w2 hk3 ⟨fun _ => by rw [w3, h47], fun z => by omega⟩
    have g46 : ∀ v : Int, e3_up (a_into σ3 p last q) 40 31 v 46 p = 6 := fun v => by rw [e3_up_ne (ne_1 (by decide)), a_into_at 46 p (by omega) (by omega) (by omega), b6.2.2.2.1 46 p (by omega) (by omega) h1]; exact h46
    have g47 : ∀ v : Int, e3_up (a_into σ3 p last q) 40 31 v 47 p = s0 := fun v => by rw [e3_up_ne (ne_1 (by decide)), a_into_at 47 p (by omega) (by omega) (by omega), b6.2.2.2.1 47 p (by omega) (by omega) h1]; exact h47
    have up31 : ∀ (τ : e3_H) (v : Int), wJ τ k p q (jj + 1) → wJ (e3_up τ 40 31 v) k p q (jj + 1) := fun τ v hτ => wJ_keep hτ (fun a x ha => e3_up_ne (ne_1 (by omega))) (e3_up_ne (fun z => absurd z.2 (by decide))) ⟨fun x => e3_up_ne (ne_1 (by decide)), fun x => e3_up_ne (ne_1 (by decide)), e3_up_ne (fun z => absurd z.2 (by decide))⟩
    split at h
    · exact ih (jj + 1) q _ _ _ (i2 + 1) _ j σ2 p2 h (p_inv_le (p_up31 pin hb0) (by omega)) (by simp (disch := omega) only [e3_up_self, e3_up_ne]; rw [e16]; omega) h0 (by simp (disch := omega) only [e3_up_self, e3_up_ne]; rw [e16]; omega) (g46 _) (g47 _) (up31 _ _ hJ2)
    · split at h
      · by_cases hun : a_un ((jj : Int) + 1) (a_into σ3 p last q) b0 fst srt un = true
        · rw [if_pos hun] at h; cases h
        · rw [if_neg hun] at h
          cases h
          exact ⟨q, jj + 1, by omega, wJ_keep (up31 _ (a_fst ((jj : Int) + 1) (a_into σ3 p last q) fst) hJ2) (fun a x ha => a_srt_at 8 a x (by omega)) (a_srt_at 8 40 16 (by omega)) ⟨fun x => a_srt_at 8 44 x (by omega), fun x => a_srt_at 8 45 x (by omega), a_srt_at 8 40 10 (by omega)⟩⟩
      · cases h
theorem binds_at {σ σ2 : e3_H} {s v x : Int} (h : a_binds σ s v = some (x, σ2)) : (∀ a y : Int, a ≠ 40 → a ≠ 56 → a ≠ 57 → a ≠ 58 → σ2 a y = σ a y) ∧ σ2 40 16 = σ 40 16 := by
  have b1 : ∀ (τ : e3_H) (c : Nat), (∀ a y : Int, a ≠ 40 → a ≠ 58 → a_bind1 τ s c a y = τ a y) ∧ a_bind1 τ s c 40 16 = τ 40 16 := by
    intro τ c
    unfold a_bind1
    exact ⟨fun a y h1 h2 => by rw [e3_up_ne (ne_1 h1), e3_up_ne (ne_1 h2)], by rw [e3_up_ne (fun z => absurd z.2 (by decide)), e3_up_ne (ne_1 (by decide))]⟩
  unfold a_binds at h
  split at h
  · split at h
    · cases h
    · cases h
      refine ⟨fun a y h1 h2 h3 h4 => ?_, ?_⟩
      · rw [(b1 _ _).1 a y h1 h4]
        unfold a_bind0
        rw [e3_up_ne (ne_1 h3), e3_up_ne (ne_1 h2)]
      · rw [(b1 _ _).2]
        unfold a_bind0
        rw [e3_up_ne (ne_1 (by decide)), e3_up_ne (ne_1 (by decide))]
  · split at h
    · cases h
    · cases h
      exact ⟨fun a y h1 _ _ h4 => (b1 _ _).1 a y h1 h4, (b1 _ _).2⟩
theorem as_at {σ1 σ2 : e3_H} {j j2 : Nat} {p p2 : Int} (h : a_as t n (.inr (j, σ1, p)) = .inr (j2, σ2, p2)) : p2 = p ∧ (∀ a y : Int, a ≠ 40 → a ≠ 54 → a ≠ 56 → a ≠ 57 → a ≠ 58 → σ2 a y = σ1 a y) ∧ σ2 40 16 = σ1 40 16 := by
  unfold a_as at h
  simp only at h
  split at h
  · split at h
    · split at h
      · cases h
      · rename_i k σ3 hb
        cases h
        obtain ⟨u1, u2⟩ := binds_at hb
        exact ⟨rfl, fun a y h1 h2 h3 h4 h5 => by rw [e3_up_ne (ne_1 h2)]; exact u1 a y h1 h3 h4 h5, by rw [e3_up_ne (ne_1 (by decide))]; exact u2⟩
    · cases h
  · cases h
    exact ⟨rfl, fun _ _ _ _ _ _ _ => rfl, rfl⟩
end WTP
