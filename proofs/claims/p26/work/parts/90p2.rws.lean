/-- rows ahead of rule k -/
def rsum (σ : e3_H) (f : Int) : Nat → Int
  | 0 => 0
  | k + 1 => rsum σ f k + σ 74 (16 * f + k)
theorem rsum_eq {σ σ2 : e3_H} {f : Int} (h : ∀ x : Int, σ2 74 x = σ 74 x) : ∀ k : Nat, rsum σ2 f k = rsum σ f k := by
  intro k
  induction k with
  | zero => rfl
  | succ k ih => show rsum σ2 f k + σ2 74 _ = rsum σ f k + σ 74 _; rw [ih, h]
theorem rsum_0 {σ : e3_H} {f : Int} {m : Nat} (h : ∀ k : Nat, k < m → 0 ≤ σ 74 (16 * f + k)) : ∀ (d k : Nat), k + d = m → 0 ≤ rsum σ f k ∧ rsum σ f k ≤ rsum σ f m := by
  have h0 : ∀ k : Nat, k ≤ m → 0 ≤ rsum σ f k := by
    intro k
    induction k with
    | zero => intro _; exact Int.le_refl _
    | succ k ih => intro hk; have := ih (by omega); have := h k (by omega); show 0 ≤ rsum σ f k + σ 74 (16 * f + k); omega
  intro d
  induction d with
  | zero => intro k hk; have hk : k = m := hk; rw [hk]; exact ⟨h0 m (Nat.le_refl _), Int.le_refl _⟩
  | succ d ih =>
    intro k hk
    have h1 := (ih (k + 1) (by omega)).2
    have h1 : rsum σ f k + σ 74 (16 * f + k) ≤ rsum σ f m := h1
    have := h k (by omega)
    exact ⟨h0 k (by omega), by omega⟩
theorem a_rwr_sum {σ0 : e3_H} {f : Int} : ∀ (rem k : Nat) (σ σ2 : e3_H), (∀ a x : Int, a ≠ 71 → σ a x = σ0 a x) → σ 71 f = rsum σ0 f k → rsum σ0 f k ≤ 40 → a_rwr f rem k σ = .inr σ2 → rsum σ0 f (k + rem) ≤ 40 ∧ σ2 71 f = rsum σ0 f (k + rem) ∧ ∀ x : Int, x ≠ f → σ2 71 x = σ 71 x := by
  intro rem
  induction rem with
  | zero => intro k σ σ2 _ h1 h2 h; cases h; exact ⟨h2, h1, fun _ _ => rfl⟩
  | succ rem ih =>
    intro k σ σ2 h0 h1 h2 h
    unfold a_rwr at h
    split at h
    · cases h
    · rename_i hz
      rw [h0 74 _ (by decide), h1] at hz h
      have := ih (k + 1) _ σ2 (fun a x ha => by rw [e3_up_ne (ne_1 ha)]; exact h0 a x ha) (by rw [e3_up_self]; rfl) (by show rsum σ0 f k + σ0 74 (16 * f + k) ≤ 40; omega) h
      rw [show k + (rem + 1) = k + 1 + rem by omega]
      exact ⟨this.1, this.2.1, fun x hx => by rw [this.2.2 x hx, e3_up_ne (fun z => hx z.2)]⟩
theorem a_rfs_sum {σ0 : e3_H} : ∀ (rem f : Nat) (σ σ2 : e3_H), (∀ a x : Int, a ≠ 71 → σ a x = σ0 a x) → a_rfs rem f σ = .inr σ2 → (∀ a x : Int, a ≠ 71 → σ2 a x = σ0 a x) ∧ (∀ g : Nat, g < f → σ2 71 g = σ 71 g) ∧ ∀ g : Nat, f ≤ g → g < f + rem → rsum σ0 g (σ0 70 g).toNat ≤ 40 ∧ σ2 71 g = rsum σ0 g (σ0 70 g).toNat := by
  intro rem
  induction rem with
  | zero => intro f σ σ2 h0 h; cases h; exact ⟨h0, fun _ _ => rfl, fun g h1 h2 => by omega⟩
  | succ rem ih =>
    intro f σ σ2 h0 h
    unfold a_rfs at h
    split at h
    · cases h
    · rename_i σ1 h1
      have u0 : ∀ a x : Int, a ≠ 71 → e3_up σ 71 f 0 a x = σ0 a x := fun a x ha => by rw [e3_up_ne (ne_1 ha)]; exact h0 a x ha
      obtain ⟨c1, c2, c3⟩ := a_rwr_sum (σ0 := σ0) _ 0 _ σ1 u0 (by rw [e3_up_self]; rfl) (by show (0 : Int) ≤ 40; omega) h1
      have c4 := a_rwr_fr _ _ _ _ h1
      obtain ⟨d1, d2, d3⟩ := ih (f + 1) σ1 σ2 (fun a x ha => (c4 a x ha).trans (u0 a x ha)) h
      rw [Nat.zero_add, h0 70 _ (by decide)] at c1 c2
      refine ⟨d1, fun g hg => ?_, fun g h1 h2 => ?_⟩
      · rw [d2 g (by omega), c3 g (by omega), e3_up_ne (fun z => by have := z.2; omega)]
      · by_cases hz : g = f
        · subst hz
          exact ⟨c1, by rw [d2 g (by omega)]; exact c2⟩
        · exact d3 g (by omega) (by omega)
/-- no FUNCTION has more than 40 rows -/
def RWS (σ : e3_H) (nf : Nat) : Prop := ∀ f : Nat, f < nf → rsum σ f (σ 70 f).toNat ≤ 40 ∧ σ 71 f = rsum σ f (σ 70 f).toNat
theorem RWS_of {σ σ2 : e3_H} {nf : Nat} (h : a_rfs nf 0 σ = .inr σ2) : RWS σ2 nf := by
  obtain ⟨d1, _, d3⟩ := a_rfs_sum (σ0 := σ) nf 0 σ σ2 (fun _ _ _ => rfl) h
  intro f hf
  have := d3 f (by omega) (by omega)
  rw [d1 70 _ (by decide), rsum_eq (fun x => d1 74 x (by decide))]
  exact this
theorem funs_16 {t : Int → Int} {n m : Nat} : ∀ (g i nf : Nat) (σ : e3_H) (j : Nat) (σ2 : e3_H), a_funs t n g i σ = .inr (j, σ2) → F_inv σ m nf → σ 40 16 ≤ (i : Int) → σ2 40 16 ≤ (j : Int) := by
  intro g
  induction g with
  | zero => intro i nf σ j σ2 h; cases h
  | succ g ih =>
    intro i nf σ j σ2 h hF hs
    unfold a_funs at h
    split at h
    · split at h
      · cases h
      · rename_i j1 σ1 h1
        obtain ⟨c1, c2, c3⟩ := a_fun_ok h1 hF (by omega)
        exact ih j1 (nf + 1) σ1 j σ2 h c1 c2
    · split at h
      · cases h; exact hs
      · cases h
