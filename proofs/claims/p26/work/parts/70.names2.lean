section NA
variable {n m : Nat} {t : Int → Int} {r : Int}
theorem a_unl_f {σ : e3_H} {b0 fst : Int} {srt : Nat → Int} : ∀ k : Nat, a_unl σ b0 fst srt k = false → σ 40 31 = fst := by
  intro k
  induction k with
  | zero =>
    intro h
    unfold a_unl at h
    have := of_decide_eq_false h
    omega
  | succ k ih =>
    intro h
    unfold a_unl at h
    rw [Bool.or_eq_false_iff] at h
    exact ih h.1
theorem a_srt_58 {σ : e3_H} {srt : Nat → Int} : ∀ (c k : Nat), k < c → a_srt σ srt c 58 (8 * σ 40 27 + k) = srt k := by
  intro c
  induction c with
  | zero => intro k hk; omega
  | succ c ih =>
    intro k hk
    show e3_up (a_srt σ srt c) 58 (8 * σ 40 27 + c) (srt c) 58 (8 * σ 40 27 + k) = _
    by_cases h : k = c
    · subst h; simp (disch := omega) only [e3_up_self, e3_up_ne]
    · rw [e3_up_ne (by omega)]; exact ih k (by omega)
/-- the state behind an alternative, as to NAMES -/
def nm_E (r : Int) (m : Nat) (b0 : Int) (σB : e3_H) (c1 fst : Int) (srt : Nat → Int) : Prop := (∀ k : Nat, k < 8 → b_bit fst k = true → (k : Int) < c1) ∧ (∀ k : Nat, k < 8 → b_bit b0 k = true → b_bit fst k = true) ∧ (∀ k : Nat, k < 8 → σB 56 r ≤ (k : Int) → (k : Int) < c1 → b_bit fst k = true) ∧ (∀ k : Nat, (k : Int) < c1 → 0 ≤ srt k ∧ srt k < 3 + m) ∧ ∀ k : Nat, k < 8 → b_bit b0 k = true → srt k = σB 58 (8 * r + k)
theorem nm_kids {g : Int → Nat → e3_H → a_R} {p kd : Int} (hg : ∀ s i σ j σ2 q, g s i σ = .inr (j, σ2, q) → p_inv σ m i → σ 40 16 ≤ (i : Int) → 0 ≤ s → s < 3 + m → a_pok m i σ j σ2 q) (hg2 : ∀ s i σ j σ2 q, g s i σ = .inr (j, σ2, q) → p_inv σ m i → σ 40 16 ≤ (i : Int) → 0 ≤ s → s < 3 + m → σ 40 27 = r → nm_inv r m σ → nm_inv r m σ2 ∧ nm_post r σ σ2) (hk : 0 ≤ kd ∧ kd < m) :
    ∀ (rem jj : Nat) (last : Int) (i : Nat) (σ : e3_H) (j : Nat) (σ2 : e3_H) (p2 : Int), a_kids t n g p kd rem jj last i σ = .inr (j, σ2, p2) → p_inv σ m i → σ 40 16 ≤ (i : Int) → 0 ≤ p → p < σ 40 16 → (last = -4 ∨ p ≤ last) → (jj + rem : Int) ≤ σ 44 kd → σ 40 27 = r → nm_inv r m σ → nm_inv r m σ2 ∧ nm_post r σ σ2 := by
  intro rem
  induction rem with
  | zero => intro jj last i σ j σ2 p2 h; cases h
  | succ rem ih =>
    intro jj last i σ j σ2 p2 h hp hs h0 h1 hl hr h27 hn
    unfold a_kids at h
    split at h
    · cases h
    · rename_i i2 σ3 q hq
      have hso := a_sort_in (jj := jj) hp hk (by omega)
      obtain ⟨b1, b2, b3, b4, b5, b6⟩ := hg _ _ _ _ _ _ hq hp hs hso.1 hso.2
      have n1 := hg2 _ _ _ _ _ _ hq hp hs hso.1 hso.2 h27 hn
      have n2 := nm_into (into := p) (last := last) (q := q) n1.1
      have pin : p_inv (a_into σ3 p last q) m i2 := p_into b5 (by omega) (by have := hp.2.1.1; omega)
      have e16 : a_into σ3 p last q 40 16 = σ3 40 16 := a_into_at 40 16 (by omega) (by omega) (by omega)
      have e27 : a_into σ3 p last q 40 27 = r := by rw [a_into_at 40 27 (by omega) (by omega) (by omega), b6.2.1 27 (by omega) (by omega)]; exact h27
      split at h
      · split at h
        · cases h
          exact ⟨n2.1, np_tr n1.2 n2.2⟩
        · cases h
      · split at h
        · have e44 : a_into σ3 p last q 44 kd = σ 44 kd := by
            rw [a_into_at 44 kd (by omega) (by omega) (by omega), b6.2.2.1 44 (by omega) (by omega)]
          have n3 := ih (jj + 1) q (i2 + 1) (a_into σ3 p last q) j σ2 p2 h (p_inv_le pin (by omega)) (by rw [e16]; omega) h0 (by rw [e16]; omega) (by omega) (by rw [e44]; omega) e27 n2.1
          exact ⟨n3.1, np_tr (np_tr n1.2 n2.2) n3.2⟩
        · cases h
theorem nm_alts {g : Bool → Nat → e3_H → a_R} {p pl b0 : Int} {σB : e3_H} (hg : ∀ mu i σ j σ2 q, g mu i σ = .inr (j, σ2, q) → p_inv σ m i → σ 40 16 ≤ (i : Int) → a_pok m i σ j σ2 q) (hg2 : ∀ mu i σ j σ2 q, g mu i σ = .inr (j, σ2, q) → p_inv σ m i → σ 40 16 ≤ (i : Int) → σ 40 27 = r → nm_inv r m σ → nm_inv r m σ2 ∧ nm_post r σ σ2) (hb0 : 0 ≤ b0 ∧ b0 < 256) (hB : σB 40 31 = b0) :
    ∀ (rem jj : Nat) (last fst : Int) (srt : Nat → Int) (un : Bool) (i : Nat) (σ : e3_H) (j : Nat) (σ2 : e3_H) (p2 : Int), a_alts t n g p pl b0 rem jj last fst srt un i σ = .inr (j, σ2, p2) → p_inv σ m i → σ 40 16 ≤ (i : Int) → 0 ≤ p → p < σ 40 16 → σ 40 27 = r → σ 40 31 = b0 → nm_inv r m σ → (∀ k : Nat, k < 8 → b_bit b0 k = true → σ 58 (8 * r + k) = σB 58 (8 * r + k)) → σB 56 r ≤ σ 56 r → (jj = 0 → σ 56 r = σB 56 r) → (jj ≠ 0 → un = false → nm_E r m b0 σB (σ 56 r) fst srt) → nm_inv r m σ2 ∧ nm_post r σB σ2 := by
  intro rem
  induction rem with
  | zero => intro jj last fst srt un i σ j σ2 p2 h; cases h
  | succ rem ih =>
    intro jj last fst srt un i σ j σ2 p2 h hp hs h0 h1 h27 h31 hA hBs hC hD hE
    have hq : ∃ i2 σ3 q, g (decide (jj = 6)) i σ = .inr (i2, σ3, q) := by
      cases hz : g (decide (jj = 6)) i σ with
      | inl q => unfold a_alts at h; rw [hz] at h; cases h
      | inr y => exact ⟨y.1, y.2.1, y.2.2, rfl⟩
    obtain ⟨i2, σ3, q, hq⟩ := hq
    rw [a_alts_eq hq] at h
    obtain ⟨b1, b2, b3, b4, b5, b6⟩ := hg _ _ _ _ _ _ hq hp hs
    have n1 := hg2 _ _ _ _ _ _ hq hp hs h27 hA
    have n2 := nm_into (into := p) (last := last) (q := q) n1.1
    have n3 := np_tr n1.2 n2.2
    have pin : p_inv (a_into σ3 p last q) m i2 := p_into b5 (by omega) (by have := hp.2.1.1; omega)
    have e16 : a_into σ3 p last q 40 16 = σ3 40 16 := a_into_at 40 16 (by omega) (by omega) (by omega)
    have e27 : a_into σ3 p last q 40 27 = r := by rw [a_into_at 40 27 (by omega) (by omega) (by omega), b6.2.1 27 (by omega) (by omega)]; exact h27
    generalize a_into σ3 p last q = τ at *
    have h8 : τ 56 r ≤ 8 := by have := pin.2.2.2.1.2; rw [e27] at this; exact this
    have hBs' : ∀ k : Nat, k < 8 → b_bit b0 k = true → τ 58 (8 * r + k) = σB 58 (8 * r + k) := fun k hk hb => (n3.2.2.1 k hk (by rw [h31]; exact hb)).trans (hBs k hk hb)
    have hE' : a_un ((jj : Int) + 1) τ b0 fst srt un = false → nm_E r m b0 σB (τ 56 r) (a_fst ((jj : Int) + 1) τ fst) (a_sr ((jj : Int) + 1) τ srt) := by
      intro hu
      unfold a_un at hu
      unfold a_fst a_sr
      by_cases c : jj = 0
      · have c2 : (jj : Int) + 1 = 1 := by omega
        rw [if_pos c2, if_pos c2]
        have hd := hD c
        refine ⟨n2.1.1, fun k hk hb => n3.1 k hk (by rw [h31]; exact hb), fun k hk h1 h2 => n3.2.1 k hk (by omega) h2, fun k hk => ?_, fun k hk hb => ?_⟩
        · rw [e27]; exact n2.1.2 k hk
        · rw [e27]; exact hBs' k hk hb
      · have c2 : ¬ (jj : Int) + 1 = 1 := by omega
        rw [if_neg c2] at hu ⊢
        rw [if_neg c2]
        rw [Bool.or_eq_false_iff] at hu
        have hE1 := hE c hu.1
        have ef := a_unl_f 8 hu.2
        have hcnt : τ 56 r = σ 56 r := by
          have hle := n3.2.2.2
          by_cases hlt : σ 56 r < τ 56 r
          · exfalso
            have hpos : 0 ≤ σ 56 r := by have := hp.2.2.2.1.1; rw [h27] at this; exact this
            have hb := n3.2.1 (σ 56 r).toNat (by omega) (by omega) (by omega)
            rw [ef] at hb
            have := hE1.1 (σ 56 r).toNat (by omega) hb
            omega
          · omega
        rw [hcnt]
        exact hE1
    split at h
    · refine ih (jj + 1) q _ _ _ (i2 + 1) _ j σ2 p2 h (p_inv_le (p_up31 pin hb0) (by omega)) (by simp (disch := omega) only [e3_up_self, e3_up_ne]; rw [e16]; omega) h0 (by simp (disch := omega) only [e3_up_self, e3_up_ne]; rw [e16]; omega) (by simp (disch := omega) only [e3_up_self, e3_up_ne]; exact e27) (by simp (disch := omega) only [e3_up_self, e3_up_ne]) ?_ (fun k hk hb => by simp (disch := omega) only [e3_up_self, e3_up_ne]; exact hBs' k hk hb) (by simp (disch := omega) only [e3_up_self, e3_up_ne]; have := n3.2.2.2; omega) (fun hz => by omega) (fun _ hu => by simp (disch := omega) only [e3_up_self, e3_up_ne]; exact hE' hu)
      refine ⟨fun k hk hb => ?_, fun k hk => ?_⟩
      · rw [e3_up_self] at hb
        simp (disch := omega) only [e3_up_self, e3_up_ne]
        have := hA.1 k hk (by rw [h31]; exact hb)
        have := n3.2.2.2
        omega
      · have hk' : (k : Int) < τ 56 r := by rw [e3_up_ne (by omega)] at hk; exact hk
        simp (disch := omega) only [e3_up_self, e3_up_ne]
        exact n2.1.2 k hk'
    · split at h
      · by_cases hun : a_un ((jj : Int) + 1) τ b0 fst srt un = true
        · rw [if_pos hun] at h; cases h
        · rw [if_neg hun] at h
          cases h
          have hu : a_un ((jj : Int) + 1) τ b0 fst srt un = false := by
            cases hz : a_un ((jj : Int) + 1) τ b0 fst srt un with
            | false => rfl
            | true => exact absurd hz hun
          obtain ⟨E1, E2, E3, E4, E5⟩ := hE' hu
          generalize a_fst ((jj : Int) + 1) τ fst = fst' at *
          generalize a_sr ((jj : Int) + 1) τ srt = srt' at *
          have q31 : a_srt (e3_up τ 40 31 fst') srt' 8 40 31 = fst' := by rw [a_srt_at 8 40 31 (by omega)]; simp (disch := omega) only [e3_up_self, e3_up_ne]
          have q56 : a_srt (e3_up τ 40 31 fst') srt' 8 56 r = τ 56 r := by rw [a_srt_at 8 56 r (by omega)]; simp (disch := omega) only [e3_up_self, e3_up_ne]
          have q58 : ∀ k : Nat, k < 8 → a_srt (e3_up τ 40 31 fst') srt' 8 58 (8 * r + k) = srt' k := by
            intro k hk
            have := a_srt_58 (σ := e3_up τ 40 31 fst') (srt := srt') 8 k hk
            rw [show (e3_up τ 40 31 fst') 40 27 = r by simp (disch := omega) only [e3_up_self, e3_up_ne]; exact e27] at this
            exact this
          unfold nm_inv nm_post
          rw [q31, q56, hB]
          exact ⟨⟨E1, fun k hk => by rw [q58 k (by omega)]; exact E4 k hk⟩, E2, E3, fun k hk hb => by rw [q58 k hk]; exact E5 k hk hb, by have := n3.2.2.2; omega⟩
      · cases h
theorem own_into {σ : e3_H} {p last q : Int} (hl : last = -4 ∨ p < last) (hp : 0 ≤ p) : ∀ a : Int, a ≠ 51 → a ≠ 55 → a_into σ p last q a p = σ a p := by
  intro a h1 h2
  unfold a_into
  split <;> simp (disch := omega) only [e3_up_self, e3_up_ne]
/-- an open pattern's own row is kept, but its first and its ways -/
theorem own_kids {g : Int → Nat → e3_H → a_R} {p kd : Int} (hg : ∀ s i σ j σ2 q, g s i σ = .inr (j, σ2, q) → p_inv σ m i → σ 40 16 ≤ (i : Int) → 0 ≤ s → s < 3 + m → a_pok m i σ j σ2 q) (hk : 0 ≤ kd ∧ kd < m) :
    ∀ (rem jj : Nat) (last : Int) (i : Nat) (σ : e3_H) (j : Nat) (σ2 : e3_H) (p2 : Int), a_kids t n g p kd rem jj last i σ = .inr (j, σ2, p2) → p_inv σ m i → σ 40 16 ≤ (i : Int) → 0 ≤ p → p < σ 40 16 → (last = -4 ∨ p < last) → (jj + rem : Int) ≤ σ 44 kd → ∀ a : Int, 46 ≤ a → a ≤ 55 → a ≠ 51 → a ≠ 55 → σ2 a p = σ a p := by
  intro rem
  induction rem with
  | zero => intro jj last i σ j σ2 p2 h; cases h
  | succ rem ih =>
    intro jj last i σ j σ2 p2 h hp hs h0 h1 hl hr a a1 a2 a3 a4
    unfold a_kids at h
    split at h
    · cases h
    · rename_i i2 σ3 q hq
      have hso := a_sort_in (jj := jj) hp hk (by omega)
      obtain ⟨b1, b2, b3, b4, b5, b6⟩ := hg _ _ _ _ _ _ hq hp hs hso.1 hso.2
      have pin : p_inv (a_into σ3 p last q) m i2 := p_into b5 (by omega) (by have := hp.2.1.1; omega)
      have e16 : a_into σ3 p last q 40 16 = σ3 40 16 := a_into_at 40 16 (by omega) (by omega) (by omega)
      have eo : a_into σ3 p last q a p = σ a p := by rw [own_into hl h0 a a3 a4]; exact b6.2.2.2.1 a p a1 a2 h1
      split at h
      · split at h
        · cases h; exact eo
        · cases h
      · split at h
        · have e44 : a_into σ3 p last q 44 kd = σ 44 kd := by
            rw [a_into_at 44 kd (by omega) (by omega) (by omega), b6.2.2.1 44 (by omega) (by omega)]
          rw [ih (jj + 1) q (i2 + 1) (a_into σ3 p last q) j σ2 p2 h (p_inv_le pin (by omega)) (by rw [e16]; omega) h0 (by rw [e16]; omega) (by omega) (by rw [e44]; omega) a a1 a2 a3 a4]
          exact eo
        · cases h
theorem own_alts {g : Bool → Nat → e3_H → a_R} {p pl b0 : Int} (hg : ∀ mu i σ j σ2 q, g mu i σ = .inr (j, σ2, q) → p_inv σ m i → σ 40 16 ≤ (i : Int) → a_pok m i σ j σ2 q) (hb0 : 0 ≤ b0 ∧ b0 < 256) :
    ∀ (rem jj : Nat) (last fst : Int) (srt : Nat → Int) (un : Bool) (i : Nat) (σ : e3_H) (j : Nat) (σ2 : e3_H) (p2 : Int), a_alts t n g p pl b0 rem jj last fst srt un i σ = .inr (j, σ2, p2) → p_inv σ m i → σ 40 16 ≤ (i : Int) → 0 ≤ p → p < σ 40 16 → (last = -4 ∨ p < last) → ∀ a : Int, 46 ≤ a → a ≤ 55 → a ≠ 51 → a ≠ 55 → σ2 a p = σ a p := by
  intro rem
  induction rem with
  | zero => intro jj last fst srt un i σ j σ2 p2 h; cases h
  | succ rem ih =>
    intro jj last fst srt un i σ j σ2 p2 h hp hs h0 h1 hl a a1 a2 a3 a4
    have hq : ∃ i2 σ3 q, g (decide (jj = 6)) i σ = .inr (i2, σ3, q) := by
      cases hz : g (decide (jj = 6)) i σ with
      | inl q => unfold a_alts at h; rw [hz] at h; cases h
      | inr y => exact ⟨y.1, y.2.1, y.2.2, rfl⟩
    obtain ⟨i2, σ3, q, hq⟩ := hq
    rw [a_alts_eq hq] at h
    obtain ⟨b1, b2, b3, b4, b5, b6⟩ := hg _ _ _ _ _ _ hq hp hs
    have pin : p_inv (a_into σ3 p last q) m i2 := p_into b5 (by omega) (by have := hp.2.1.1; omega)
    have e16 : a_into σ3 p last q 40 16 = σ3 40 16 := a_into_at 40 16 (by omega) (by omega) (by omega)
    have eo : a_into σ3 p last q a p = σ a p := by rw [own_into hl h0 a a3 a4]; exact b6.2.2.2.1 a p a1 a2 h1
    split at h
    · rw [ih (jj + 1) q _ _ _ (i2 + 1) _ j σ2 p2 h (p_inv_le (p_up31 pin hb0) (by omega)) (by simp (disch := omega) only [e3_up_self, e3_up_ne]; rw [e16]; omega) h0 (by simp (disch := omega) only [e3_up_self, e3_up_ne]; rw [e16]; omega) (by omega) a a1 a2 a3 a4]
      simp (disch := omega) only [e3_up_self, e3_up_ne]
      exact eo
    · split at h
      · by_cases hun : a_un ((jj : Int) + 1) (a_into σ3 p last q) b0 fst srt un = true
        · rw [if_pos hun] at h; cases h
        · rw [if_neg hun] at h
          cases h
          rw [a_srt_at 8 a p (by omega)]
          simp (disch := omega) only [e3_up_self, e3_up_ne]
          exact eo
      · cases h
theorem nm_pat : ∀ (f : Nat) (s : Int) (d : Nat) (mu : Bool) (i : Nat) (σ : e3_H) (j : Nat) (σ2 : e3_H) (p : Int), a_pat t n f s d mu i σ = .inr (j, σ2, p) → p_inv σ m i → σ 40 16 ≤ (i : Int) → 0 ≤ s → s < 3 + m → σ 40 27 = r → nm_inv r m σ → nm_inv r m σ2 ∧ nm_post r σ σ2 := by
  intro f
  induction f with
  | zero => intro s d mu i σ j σ2 p h; cases h
  | succ f ih =>
    intro s d mu i σ j σ2 p h hp hst hs0 hs1 h27 hn
    rw [a_pat_beg] at h
    split at h
    · cases h
    · rename_i j1 σ1 op hb
      obtain ⟨b1, b2, b3, b4, b5, b6, b7, b8, b9, b10⟩ := a_beg_ok hb hp hst
      have n1 := nm_beg hb hp hst h27 hn ⟨hs0, hs1⟩
      have hp0 := hp.2.1.1
      have e27 : σ1 40 27 = r := by rw [b4.2.1 27 (by omega) (by omega)]; exact h27
      by_cases ho : op = true
      · rw [if_pos ho] at h
        have hr : ∃ j3 σ3 p3, a_rest t n f s d i σ j1 σ1 = .inr (j3, σ3, p3) := by
          cases hz : a_rest t n f s d i σ j1 σ1 with
          | inl q => rw [hz] at h; cases h
          | inr y => exact ⟨y.1, y.2.1, y.2.2, rfl⟩
        obtain ⟨j3, σ3, p3, hr⟩ := hr
        rw [hr] at h
        have hk : a_kok m (σ 40 16) j1 σ1 j3 σ3 p3 ∧ (nm_inv r m σ3 ∧ nm_post r σ1 σ3) ∧ σ3 47 (σ 40 16) = s := by
          unfold a_rest at hr
          rcases (b10 ho).2 with ⟨c1, c2, c3, c4, c5, c6⟩ | ⟨c1, c2⟩
          · rw [if_pos c1] at hr
            have e44 : σ1 44 = σ 44 := b4.2.2.1 44 (by omega) (by omega)
            have h44 := (hp.1.2.2.2.2 (a_fd (σ 42) (x_wo t n i) (a_nk σ)).toNat (by omega)).1
            rw [Int.toNat_of_nonneg c4] at h44
            have hcnt : ((0 : Nat) + (σ 44 (a_fd (σ 42) (x_wo t n i) (a_nk σ))).toNat : Int) ≤ σ1 44 (a_fd (σ 42) (x_wo t n i) (a_nk σ)) := by rw [e44, Int.toNat_of_nonneg h44]; omega
            have k1 := a_kids_ok (m := m) (fun s2 i2 σ2 j2 σ4 q hq g1 g2 _ _ => a_pat_ok f s2 (d + 1) false i2 σ2 j2 σ4 q hq g1 g2) ⟨c4, c5⟩ _ _ _ _ _ _ _ _ hr b3 (by omega) hp0 (by omega) (Or.inl rfl) hcnt
            refine ⟨k1, nm_kids (m := m) (fun s2 i2 σ2 j2 σ4 q hq g1 g2 _ _ => a_pat_ok f s2 (d + 1) false i2 σ2 j2 σ4 q hq g1 g2) (fun s2 i2 σ2 j2 σ4 q hq g1 g2 g3 g4 g5 g6 => ih s2 (d + 1) false i2 σ2 j2 σ4 q hq g1 g2 g3 g4 g5 g6) ⟨c4, c5⟩ _ _ _ _ _ _ _ _ hr b3 (by omega) hp0 (by omega) (Or.inl rfl) hcnt e27 n1.1, ?_⟩
            rw [own_kids (m := m) (fun s2 i2 σ2 j2 σ4 q hq g1 g2 _ _ => a_pat_ok f s2 (d + 1) false i2 σ2 j2 σ4 q hq g1 g2) ⟨c4, c5⟩ _ _ _ _ _ _ _ _ hr b3 (by omega) hp0 (by omega) (Or.inl rfl) hcnt 47 (by omega) (by omega) (by omega) (by omega)]
            exact b5
          · rw [if_neg (by omega)] at hr
            have h31 := hp.2.2.2.2.1
            have k1 := a_alts_ok (m := m) h31 (fun mu2 i2 σ2 j2 σ4 q hq g1 g2 => a_pat_ok f s (d + 1) mu2 i2 σ2 j2 σ4 q hq g1 g2) _ _ _ _ _ _ _ _ _ _ _ hr (by omega) b3 (by omega) hp0 (by omega) (Or.inl rfl)
            refine ⟨k1, nm_alts (m := m) (σB := σ1) (fun mu2 i2 σ2 j2 σ4 q hq g1 g2 => a_pat_ok f s (d + 1) mu2 i2 σ2 j2 σ4 q hq g1 g2) (fun mu2 i2 σ2 j2 σ4 q hq g1 g2 g5 g6 => ih s (d + 1) mu2 i2 σ2 j2 σ4 q hq g1 g2 hs0 hs1 g5 g6) h31 (b10 ho).1 _ _ _ _ _ _ _ _ _ _ _ hr b3 (by omega) hp0 (by omega) e27 (b10 ho).1 n1.1 (fun _ _ _ => rfl) (by omega) (fun _ => rfl) (fun hz => absurd rfl hz), ?_⟩
            rw [own_alts (m := m) (fun mu2 i2 σ2 j2 σ4 q hq g1 g2 => a_pat_ok f s (d + 1) mu2 i2 σ2 j2 σ4 q hq g1 g2) h31 _ _ _ _ _ _ _ _ _ _ _ hr b3 (by omega) hp0 (by omega) (Or.inl rfl) 47 (by omega) (by omega) (by omega) (by omega)]
            exact b5
        obtain ⟨⟨k1, k2, k3, k4, k5, k6⟩, n2, e47⟩ := hk
        have e27' : σ3 40 27 = r := by rw [k6.2.1 27 (by omega) (by omega)]; exact e27
        subst k2
        have n3 := nm_as h k5 e27' n2.1 (by rw [e47]; omega)
        exact ⟨n3.1, np_tr n1.2 (np_tr n2.2 n3.2)⟩
      · rw [if_neg ho] at h
        have n3 := nm_as h b3 e27 n1.1 (by rw [b5]; omega)
        exact ⟨n3.1, np_tr n1.2 n3.2⟩
end NA
