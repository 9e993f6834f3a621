section NN3
variable {n m : Nat} {t : Int → Int} {r : Int}
/-- NAMES of a pattern that was read -/
theorem nn_pat : ∀ (f : Nat) (s : Int) (d : Nat) (mu : Bool) (i : Nat) (σ : e3_H) (j : Nat) (σ2 : e3_H) (p : Int), a_pat t n f s d mu i σ = .inr (j, σ2, p) → p_inv σ m i → σ 40 16 ≤ (i : Int) → 0 ≤ s → s < 3 + m → σ 40 27 = r → nm_inv r m σ → ∀ k : Nat, d + k = 6 → NB r σ σ2 ∧ ∀ w : Nat, w < 8 → b_bit (σ2 40 31) w = true → b_bit (σ 40 31) w = true ∨ nv σ2 k (σ2 40 16) p w := by
  intro f
  induction f with
  | zero => intro s d mu i σ j σ2 p h; cases h
  | succ f ih =>
    intro s d mu i σ j σ2 p h hp hst hs0 hs1 h27 hn k hk
    rw [a_pat_beg] at h
    split at h
    · cases h
    · rename_i j1 σ1 op hb
      obtain ⟨b1, b2, b3, b4, b5, b6, b7, b8, b9, b10⟩ := a_beg_ok hb hp hst
      have n1 := nm_beg hb hp hst h27 hn ⟨hs0, hs1⟩
      obtain ⟨v1, v2, v3⟩ := nn_beg hb hp hst h27 hn ⟨hs0, hs1⟩
      obtain ⟨bm, bo⟩ := beg_46 hb
      have hp0 := hp.2.1.1
      have e27 : σ1 40 27 = r := by rw [b4.2.1 27 (by omega) (by omega)]; exact h27
      have hd : d < 6 := by
        by_cases hd : 6 ≤ d
        · rw [decide_eq_true hd, Bool.or_true] at bm; cases bm
        · omega
      obtain ⟨k', rfl⟩ : ∃ k', k = k' + 1 := ⟨k - 1, by omega⟩
      by_cases ho : op = true
      · rw [if_pos ho] at h
        have hr : ∃ j3 σ3 p3, a_rest t n f s d i σ j1 σ1 = .inr (j3, σ3, p3) := by
          cases hz : a_rest t n f s d i σ j1 σ1 with
          | inl q => rw [hz] at h; cases h
          | inr y => exact ⟨y.1, y.2.1, y.2.2, rfl⟩
        obtain ⟨j3, σ3, p3, hr⟩ := hr
        rw [hr] at h
        have e31 : σ1 40 31 = σ 40 31 := (b10 ho).1
        have N0 : NB r σ1 σ1 := fun a x _ x0 x1 => by omega
        have P0 : nm_post r σ1 σ1 := ⟨fun _ _ hb => hb, fun w hw h1 h2 => by omega, fun _ _ _ => rfl, Int.le_refl _⟩
        have J0 : kJ σ1 k' (σ 40 16) (-4) [] (fun _ _ => false) := Or.inl ⟨rfl, rfl⟩
        have hk : a_kok m (σ 40 16) j1 σ1 j3 σ3 p3 ∧ (nm_inv r m σ3 ∧ nm_post r σ1 σ3) ∧ (∀ a : Int, 46 ≤ a → a ≤ 55 → a ≠ 51 → a ≠ 55 → σ3 a (σ 40 16) = σ1 a (σ 40 16)) ∧ NB r σ1 σ3 ∧ ∀ w : Nat, w < 8 → b_bit (σ3 40 31) w = true → b_bit (σ1 40 31) w = true ∨ nv σ3 (k' + 1) (σ3 40 16) (σ 40 16) w := by
          unfold a_rest at hr
          rcases (b10 ho).2 with ⟨c1, c2, c3, c4, c5, c6⟩ | ⟨c1, c2⟩
          · rw [if_pos c1] at hr
            have e44 : σ1 44 = σ 44 := b4.2.2.1 44 (by omega) (by omega)
            have h44 := (hp.1.2.2.2.2 (a_fd (σ 42) (x_wo t n i) (a_nk σ)).toNat (by omega)).1
            rw [Int.toNat_of_nonneg c4] at h44
            have hcnt : ((0 : Nat) + (σ 44 (a_fd (σ 42) (x_wo t n i) (a_nk σ))).toNat : Int) ≤ σ1 44 (a_fd (σ 42) (x_wo t n i) (a_nk σ)) := by rw [e44, Int.toNat_of_nonneg h44]; omega
            have hgk : ∀ s2 i2 σ2 j2 σ4 q, (fun s2 i2 σ2 => a_pat t n f s2 (d + 1) false i2 σ2) s2 i2 σ2 = .inr (j2, σ4, q) → p_inv σ2 m i2 → σ2 40 16 ≤ (i2 : Int) → 0 ≤ s2 → s2 < 3 + m → a_pok m i2 σ2 j2 σ4 q := fun s2 i2 σ2 j2 σ4 q hq g1 g2 _ _ => a_pat_ok f s2 (d + 1) false i2 σ2 j2 σ4 q hq g1 g2
            have hgm : ∀ s2 i2 σ2 j2 σ4 q, (fun s2 i2 σ2 => a_pat t n f s2 (d + 1) false i2 σ2) s2 i2 σ2 = .inr (j2, σ4, q) → p_inv σ2 m i2 → σ2 40 16 ≤ (i2 : Int) → 0 ≤ s2 → s2 < 3 + m → σ2 40 27 = r → nm_inv r m σ2 → nm_inv r m σ4 ∧ nm_post r σ2 σ4 := fun s2 i2 σ2 j2 σ4 q hq g1 g2 g3 g4 g5 g6 => nm_pat f s2 (d + 1) false i2 σ2 j2 σ4 q hq g1 g2 g3 g4 g5 g6
            have own := own_kids (m := m) hgk ⟨c4, c5⟩ _ _ _ _ _ _ _ _ hr b3 (by omega) hp0 (by omega) (Or.inl rfl) hcnt
            obtain ⟨x1, last2, L2, C2, x2, x3, x4⟩ := nn_kids (m := m) (σS := σ1) (k := k') hgk hgm (fun s2 i2 σ2 j2 σ4 q hq g1 g2 g3 g4 g5 g6 => ⟨ih s2 (d + 1) false i2 σ2 j2 σ4 q hq g1 g2 g3 g4 g5 g6 k' (by omega), (wt_pat f s2 (d + 1) false i2 σ2 j2 σ4 q hq g1 g2 g3 k' (by omega)).2.1⟩) ⟨c4, c5⟩ _ _ _ _ _ _ _ _ hr b3 (by omega) hp0 (by omega) hcnt e27 n1.1 N0 P0 [] (fun _ _ => false) J0 (fun w _ hb => Or.inl hb)
            obtain ⟨y1, y2⟩ := kJ_end x3 x2
            refine ⟨a_kids_ok (m := m) hgk ⟨c4, c5⟩ _ _ _ _ _ _ _ _ hr b3 (by omega) hp0 (by omega) (Or.inl rfl) hcnt, nm_kids (m := m) hgk hgm ⟨c4, c5⟩ _ _ _ _ _ _ _ _ hr b3 (by omega) hp0 (by omega) (Or.inl rfl) hcnt e27 n1.1, own, x1, fun w hw hb => ?_⟩
            rcases x4 w hw hb with z | ⟨c, z1, z2⟩
            · exact Or.inl z
            · exact Or.inr (Or.inr (Or.inr ⟨L2, y1, fun c hc => (y2 c hc).1, Or.inr ⟨by rw [own 46 (by decide) (by decide) (by decide) (by decide), c2]; decide, c, z1, (y2 c z1).2 w z2⟩⟩))
          · rw [if_neg (by omega)] at hr
            have h31 := hp.2.2.2.2.1
            have hga : ∀ mu2 i2 σ2 j2 σ4 q, (fun mu2 i2 σ2 => a_pat t n f s (d + 1) mu2 i2 σ2) mu2 i2 σ2 = .inr (j2, σ4, q) → p_inv σ2 m i2 → σ2 40 16 ≤ (i2 : Int) → a_pok m i2 σ2 j2 σ4 q := fun mu2 i2 σ2 j2 σ4 q hq g1 g2 => a_pat_ok f s (d + 1) mu2 i2 σ2 j2 σ4 q hq g1 g2
            have hgm : ∀ mu2 i2 σ2 j2 σ4 q, (fun mu2 i2 σ2 => a_pat t n f s (d + 1) mu2 i2 σ2) mu2 i2 σ2 = .inr (j2, σ4, q) → p_inv σ2 m i2 → σ2 40 16 ≤ (i2 : Int) → σ2 40 27 = r → nm_inv r m σ2 → nm_inv r m σ4 ∧ nm_post r σ2 σ4 := fun mu2 i2 σ2 j2 σ4 q hq g1 g2 g5 g6 => nm_pat f s (d + 1) mu2 i2 σ2 j2 σ4 q hq g1 g2 hs0 hs1 g5 g6
            have own := own_alts (m := m) hga h31 _ _ _ _ _ _ _ _ _ _ _ hr b3 (by omega) hp0 (by omega) (Or.inl rfl)
            obtain ⟨x1, last2, L2, C2, x2, x3, x4⟩ := nn_alts (m := m) (σS := σ1) (k := k') hga hgm (fun mu2 i2 σ2 j2 σ4 q hq g1 g2 g5 g6 => ⟨ih s (d + 1) mu2 i2 σ2 j2 σ4 q hq g1 g2 hs0 hs1 g5 g6 k' (by omega), (wt_pat f s (d + 1) mu2 i2 σ2 j2 σ4 q hq g1 g2 hs0 k' (by omega)).2.1⟩) h31 (b10 ho).1 _ _ _ _ _ _ _ _ _ _ _ hr b3 (by omega) hp0 (by omega) e27 (b10 ho).1 n1.1 (fun _ => rfl) (fun hz => absurd rfl hz) [] (fun _ _ => false) J0 (fun _ => rfl) (fun hz => absurd rfl hz)
            obtain ⟨y1, y2⟩ := kJ_end x3 x2
            refine ⟨a_alts_ok (m := m) h31 hga _ _ _ _ _ _ _ _ _ _ _ hr (by omega) b3 (by omega) hp0 (by omega) (Or.inl rfl), nm_alts (m := m) (σB := σ1) hga hgm h31 (b10 ho).1 _ _ _ _ _ _ _ _ _ _ _ hr b3 (by omega) hp0 (by omega) e27 (b10 ho).1 n1.1 (fun _ _ _ => rfl) (by omega) (fun _ => rfl) (fun hz => absurd rfl hz), own, x1, fun w hw hb => ?_⟩
            rcases x4 w hw hb with z | z
            · exact Or.inl z
            · exact Or.inr (Or.inr (Or.inr ⟨L2, y1, fun c hc => (y2 c hc).1, Or.inl ⟨by rw [own 46 (by decide) (by decide) (by decide) (by decide)]; exact c2, fun c hc => (y2 c hc).2 w (z c hc)⟩⟩))
        obtain ⟨⟨k1, k2, k3, k4, k5, k6⟩, n2, own, N3, V3⟩ := hk
        have e27' : σ3 40 27 = r := by rw [k6.2.1 27 (by omega) (by omega)]; exact e27
        subst k2
        have e53 : σ3 53 (σ 40 16) = -4 := by rw [own 53 (by decide) (by decide) (by decide) (by decide)]; exact v3 ho
        have e54 : σ3 54 (σ 40 16) = -4 := by rw [own 54 (by decide) (by decide) (by decide) (by decide)]; exact b8
        have e47 : σ3 47 (σ 40 16) = s := by rw [own 47 (by decide) (by decide) (by decide) (by decide)]; exact b5
        refine nn_as (σ := σ) h k5 e27' n2.1 (by rw [e47]; omega) e54 ⟨Int.le_refl _, by omega⟩ (fun w hw hb => n2.2.1 w hw (by rw [e31]; exact hb)) (fun a x ha x0 x1 z => ?_) (fun w hw hb => ?_)
        · by_cases hx : x = σ 40 16
          · rw [hx] at z
            rcases ha with y | y
            · rw [y, e53] at z; omega
            · rw [y, e54] at z; omega
          · obtain ⟨w, q1, q2, q3, q4, q5⟩ := N3 a x ha (by omega) x1 z
            exact ⟨w, q1, q2, by rw [← e31]; exact q3, q4, q5⟩
        · rcases V3 w hw hb with z | z
          · exact Or.inl (by rw [← e31]; exact z)
          · exact Or.inr z
      · rw [if_neg ho] at h
        refine nn_as (σ := σ) h b3 e27 n1.1 (by rw [b5]; omega) b8 ⟨Int.le_refl _, by omega⟩ (fun w hw hb => n1.2.1 w hw hb) v1 (fun w hw hb => ?_)
        rcases v2 w hw hb with z | z
        · exact Or.inl z
        · exact Or.inr (Or.inl z)
end NN3
