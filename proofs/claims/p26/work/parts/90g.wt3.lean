section WTQ
variable {n m : Nat} {t : Int → Int}
theorem npat_46 {σ : e3_H} {kd s : Int} : a_npat σ kd s 46 (σ 40 16) = kd := by
  unfold a_npat
  simp (disch := omega) only [e3_up_self, e3_up_ne]
theorem at_46 {σ : e3_H} {p A T x : Int} : a_at σ p A T 46 x = σ 46 x := by
  unfold a_at
  simp (disch := omega) only [e3_up_self, e3_up_ne]
theorem beg_46 {σ σ2 : e3_H} {s : Int} {mu op : Bool} {i j : Nat} (h : a_beg t n s mu i σ = .inr (j, σ2, op)) : mu = false ∧ (op = false → σ2 46 (σ 40 16) ≠ 6) := by
  unfold a_beg at h
  split at h
  · cases h
  rename_i hno
  have hmu : mu = false := by
    cases mu with
    | false => rfl
    | true => exact absurd (Or.inr rfl) hno
  refine ⟨hmu, fun ho => ?_⟩
  have cl : ∀ (kd A T : Int), kd ≠ 6 → a_at (a_npat σ kd s) (σ 40 16) A T 46 (σ 40 16) ≠ 6 := fun kd A T hk => by rw [at_46, npat_46]; exact hk
  split at h
  · split at h
    · cases h
    · rename_i k σb hb
      cases h
      rw [at_46, e3_up_ne (ne_1 (by decide)), (binds_at hb).1 46 _ (by decide) (by decide) (by decide) (by decide), npat_46]
      decide
  · split at h
    · split at h
      · cases h
      · rename_i j' σb _ hb
        cases h
        obtain ⟨_, x, y, e⟩ := a_rng_ok hb
        rw [e, e3_up_ne (ne_1 (by decide)), e3_up_ne (ne_1 (by decide))]
        exact cl 1 0 0 (by decide)
    · split at h
      · cases h; exact cl _ _ _ (by decide)
      · split at h
        · cases h; exact cl _ _ _ (by decide)
        · split at h
          · cases h; exact cl _ _ _ (by decide)
          · split at h
            · cases h; exact cl _ _ _ (by decide)
            · split at h
              · split at h
                · split at h
                  · cases h
                  · cases h; cases ho
                · cases h; exact cl _ _ _ (by decide)
              · split at h
                · cases h; cases ho
                · cases h; exact cl _ _ _ (by decide)
theorem binds_10 {σ σ2 : e3_H} {s v x : Int} (h : a_binds σ s v = some (x, σ2)) : σ2 40 10 = σ 40 10 := by
  have b1 : ∀ (τ : e3_H) (c : Nat), a_bind1 τ s c 40 10 = τ 40 10 := by
    intro τ c
    unfold a_bind1
    rw [e3_up_ne (fun z => absurd z.2 (by decide)), e3_up_ne (ne_1 (by decide))]
  unfold a_binds at h
  split at h
  · split at h
    · cases h
    · cases h
      rw [b1]
      unfold a_bind0
      rw [e3_up_ne (ne_1 (by decide)), e3_up_ne (ne_1 (by decide))]
  · split at h
    · cases h
    · cases h
      exact b1 _ _
theorem as_10 {σ1 σ2 : e3_H} {j j2 : Nat} {p p2 : Int} (h : a_as t n (.inr (j, σ1, p)) = .inr (j2, σ2, p2)) : σ2 40 10 = σ1 40 10 := by
  unfold a_as at h
  simp only at h
  split at h
  · split at h
    · split at h
      · cases h
      · rename_i k σ3 hb
        cases h
        rw [e3_up_ne (ne_1 (by decide))]
        exact binds_10 hb
    · cases h
  · cases h
    rfl
theorem rng_bd {σ σ2 : e3_H} {p pl p2 : Int} {i j : Nat} (h : a_rng t n p pl i σ = .inr (j, σ2, p2)) : (-999999999 ≤ σ2 48 p ∧ σ2 48 p ≤ 999999999) ∧ (-999999999 ≤ σ2 49 p ∧ σ2 49 p ≤ 999999999) ∧ ∀ a k : Int, a ≠ 48 → a ≠ 49 → σ2 a k = σ a k := by
  unfold a_rng at h
  split at h
  · cases h
  · rename_i j1 x h1
    have bx := a_num_bd h1
    split at h
    · split at h
      · cases h
      · rename_i j2 y h2
        have hy := a_num_bd h2
        split at h
        · cases h
        · cases h
          exact ⟨by rw [e3_up_ne (ne_1 (by decide)), e3_up_ne (ne_1 (by decide)), e3_up_self]; exact bx, by rw [e3_up_self]; exact hy, fun a k h1 h2 => by rw [e3_up_ne (ne_1 h2), e3_up_ne (ne_1 h2), e3_up_ne (ne_1 h1)]⟩
    · cases h
      exact ⟨by rw [e3_up_ne (ne_1 (by decide)), e3_up_self]; exact bx, by rw [e3_up_self]; exact bx, fun a k h1 h2 => by rw [e3_up_ne (ne_1 h2), e3_up_ne (ne_1 h1)]⟩
theorem nod_of {τ : e3_H} {q kd s : Int} (e46 : τ 46 q = kd) (e47 : τ 47 q = s) (hs : 0 ≤ s) (hk : 0 ≤ kd ∧ kd ≤ 6) (c1 : kd = 1 → s = 0 ∧ (-999999999 ≤ τ 48 q ∧ τ 48 q ≤ 999999999) ∧ (-999999999 ≤ τ 49 q ∧ τ 49 q ≤ 999999999)) (c2 : kd = 2 → s = 1 ∧ (τ 48 q = 0 ∨ τ 48 q = 1)) (c3 : kd = 3 → s = 2 ∧ τ 50 q ≠ -1 ∧ τ 50 q ≠ -9223372036854775808) (c4 : kd = 4 → 3 ≤ s) (c5 : kd = 5 → 3 ≤ s ∧ 0 ≤ τ 48 q ∧ τ 48 q < τ 40 10) : nod τ q := by
  unfold nod
  rw [e46, e47]
  exact ⟨hs, c1, c2, c3, c4, c5, hk⟩
theorem np_at {σ : e3_H} {kd s A T : Int} : a_at (a_npat σ kd s) (σ 40 16) A T 46 (σ 40 16) = kd ∧ a_at (a_npat σ kd s) (σ 40 16) A T 47 (σ 40 16) = s ∧ a_at (a_npat σ kd s) (σ 40 16) A T 48 (σ 40 16) = A ∧ a_at (a_npat σ kd s) (σ 40 16) A T 50 (σ 40 16) = T ∧ a_at (a_npat σ kd s) (σ 40 16) A T 40 10 = σ 40 10 := by
  unfold a_at a_npat
  refine ⟨?_, ?_, ?_, ?_, ?_⟩ <;> simp (disch := omega) only [e3_up_self, e3_up_ne]
/-- the row that a pattern begins with keeps to its SORT -/
theorem beg_nod {σ σ2 : e3_H} {s : Int} {mu op : Bool} {i j : Nat} (h : a_beg t n s mu i σ = .inr (j, σ2, op)) (hs : 0 ≤ s) : nod σ2 (σ 40 16) := by
  unfold a_beg at h
  split at h
  · cases h
  rename_i hno
  have ho : a_okp t n s i σ = true := by
    cases hz : a_okp t n s i σ with
    | true => rfl
    | false => exact absurd (Or.inl hz) hno
  have cl : ∀ (kd A T : Int), (0 ≤ kd ∧ kd ≤ 6) → kd ≠ 1 → (kd = 2 → s = 1 ∧ (A = 0 ∨ A = 1)) → (kd = 3 → s = 2 ∧ T ≠ -1 ∧ T ≠ -9223372036854775808) → (kd = 4 → 3 ≤ s) → (kd = 5 → 3 ≤ s ∧ 0 ≤ A ∧ A < σ 40 10) → nod (a_at (a_npat σ kd s) (σ 40 16) A T) (σ 40 16) := fun kd A T hk h1 c2 c3 c4 c5 => by
    obtain ⟨e1, e2, e3, e4, e5⟩ := np_at (σ := σ) (kd := kd) (s := s) (A := A) (T := T)
    exact nod_of e1 e2 hs hk (fun z => absurd z h1) (by rw [e3]; exact c2) (by rw [e4]; exact c3) c4 (by rw [e3, e5]; exact c5)
  have cz : ∀ (kd A T : Int), kd = 0 ∨ kd = 6 → nod (a_at (a_npat σ kd s) (σ 40 16) A T) (σ 40 16) := fun kd A T hk => cl kd A T (by omega) (by omega) (fun z => by omega) (fun z => by omega) (fun z => by omega) (fun z => by omega)
  split at h
  · rename_i h258
    split at h
    · cases h
    · rename_i k σb hb
      cases h
      have e46 : a_at (e3_up σb 53 (σ 40 16) k) (σ 40 16) 0 0 46 (σ 40 16) = 0 := by rw [at_46, e3_up_ne (ne_1 (by decide)), (binds_at hb).1 46 _ (by decide) (by decide) (by decide) (by decide), npat_46]
      have e47 : a_at (e3_up σb 53 (σ 40 16) k) (σ 40 16) 0 0 47 (σ 40 16) = s := by
        have : a_npat σ 0 s 47 (σ 40 16) = s := by unfold a_npat; simp (disch := omega) only [e3_up_self, e3_up_ne]
        unfold a_at
        rw [e3_up_ne (ne_1 (by decide)), e3_up_ne (ne_1 (by decide)), e3_up_ne (ne_1 (by decide)), (binds_at hb).1 47 _ (by decide) (by decide) (by decide) (by decide), this]
      exact nod_of e46 e47 hs (by decide) (fun z => by omega) (fun z => by omega) (fun z => by omega) (fun z => by omega) (fun z => by omega)
  · rename_i h258
    split at h
    · rename_i hnum
      have hs0 : s = 0 := by
        unfold a_okp at ho
        rw [if_neg (by omega), if_neg h258, if_pos hnum] at ho
        exact of_decide_eq_true ho
      split at h
      · cases h
      · rename_i j' σb _ hb
        cases h
        obtain ⟨r1, r2, r3⟩ := rng_bd hb
        obtain ⟨e1, e2, e3, e4, e5⟩ := np_at (σ := σ) (kd := 1) (s := s) (A := 0) (T := 0)
        exact nod_of ((r3 46 _ (by decide) (by decide)).trans e1) ((r3 47 _ (by decide) (by decide)).trans e2) hs (by decide) (fun _ => ⟨hs0, r1, r2⟩) (fun z => by omega) (fun z => by omega) (fun z => by omega) (fun z => by omega)
    · rename_i hnum
      split at h
      · rename_i h278
        cases h
        have hs1 : s = 1 := by
          unfold a_okp at ho
          rw [if_neg (by omega), if_neg h258, if_neg hnum, if_pos (Or.inl h278)] at ho
          exact of_decide_eq_true ho
        exact cl _ _ _ (by decide) (by decide) (fun _ => ⟨hs1, Or.inr rfl⟩) (fun z => by omega) (fun z => by omega) (fun z => by omega)
      · rename_i h278
        split at h
        · rename_i h279
          cases h
          have hs1 : s = 1 := by
            unfold a_okp at ho
            rw [if_neg (by omega), if_neg h258, if_neg hnum, if_pos (Or.inr h279)] at ho
            exact of_decide_eq_true ho
          exact cl _ _ _ (by decide) (by decide) (fun _ => ⟨hs1, Or.inl rfl⟩) (fun z => by omega) (fun z => by omega) (fun z => by omega)
        · rename_i h279
          split at h
          · rename_i h261
            cases h
            have hs2 : s = 2 := by
              unfold a_okp at ho
              rw [if_neg (by omega), if_neg h258, if_neg hnum, if_neg (by omega), if_pos h261] at ho
              exact of_decide_eq_true ho
            exact cl _ _ _ (by decide) (by decide) (fun z => by omega) (fun _ => ⟨hs2, (x_wo_ok (t := t) (n := n) (i := i)).2 h261⟩) (fun z => by omega) (fun z => by omega)
          · rename_i h261
            split at h
            · rename_i h280
              cases h
              have hs3 : 3 ≤ s := by
                unfold a_okp at ho
                rw [if_neg (by omega), if_neg h258, if_neg hnum, if_neg (by omega), if_neg h261, if_pos h280] at ho
                exact of_decide_eq_true ho
              exact cl _ _ _ (by decide) (by decide) (fun z => by omega) (fun z => by omega) (fun _ => hs3) (fun z => by omega)
            · rename_i h280
              split at h
              · rename_i h259
                have hk : 3 ≤ s ∧ 0 ≤ a_fd (σ 42) (x_wo t n i) (a_nk σ) := by
                  unfold a_okp at ho
                  rw [if_neg (by omega), if_neg h258, if_neg hnum, if_neg (by omega), if_neg h261, if_neg h280, if_pos h259] at ho
                  simp only [Bool.and_eq_true, decide_eq_true_eq] at ho
                  exact ⟨ho.1.2, ho.1.1⟩
                have hr := a_fd_rg (σ 42) (x_wo t n i) (a_nk σ)
                have hk2 : a_fd (σ 42) (x_wo t n i) (a_nk σ) < σ 40 10 := by
                  rcases hr with z | ⟨_, z, _⟩
                  · omega
                  · have e : ((a_nk σ : Nat) : Int) = ((σ 40 10).toNat : Int) := rfl
                    omega
                have c5 : ∀ T : Int, nod (a_at (a_npat σ 5 s) (σ 40 16) (a_fd (σ 42) (x_wo t n i) (a_nk σ)) T) (σ 40 16) := fun T => cl 5 _ T (by decide) (by decide) (fun z => by omega) (fun z => by omega) (fun z => by omega) (fun _ => ⟨hk.1, hk.2, hk2⟩)
                split at h
                · split at h
                  · cases h
                  · cases h; exact c5 0
                · cases h; exact c5 0
              · split at h
                · cases h; exact cz _ _ _ (Or.inr rfl)
                · cases h; exact cz _ _ _ (Or.inl rfl)
/-- a pattern that was read is a tree -/
theorem wt_pat : ∀ (f : Nat) (s : Int) (d : Nat) (mu : Bool) (i : Nat) (σ : e3_H) (j : Nat) (σ2 : e3_H) (p : Int), a_pat t n f s d mu i σ = .inr (j, σ2, p) → p_inv σ m i → σ 40 16 ≤ (i : Int) → 0 ≤ s → ∀ k : Nat, d + k = 6 → wt σ2 k (σ2 40 16) p ∧ σ2 52 p = -4 ∧ σ2 47 p = s := by
  intro f
  induction f with
  | zero => intro s d mu i σ j σ2 p h; cases h
  | succ f ih =>
    intro s d mu i σ j σ2 p h hp hst hs0 k hk
    rw [a_pat_beg] at h
    split at h
    · cases h
    · rename_i j1 σ1 op hb
      obtain ⟨b1, b2, b3, b4, b5, b6, b7, b8, b9, b10⟩ := a_beg_ok hb hp hst
      obtain ⟨bm, bo⟩ := beg_46 hb
      have bn := beg_nod hb hs0
      have hd : d < 6 := by
        by_cases hd : 6 ≤ d
        · rw [decide_eq_true hd, Bool.or_true] at bm; cases bm
        · omega
      have hp0 := hp.2.1.1
      obtain ⟨k', rfl⟩ : ∃ k', k = k' + 1 := ⟨k - 1, by omega⟩
      have fin : ∀ (j3 : Nat) (σ3 : e3_H), a_as t n (.inr (j3, σ3, σ 40 16)) = .inr (j, σ2, p) → σ 40 16 < σ3 40 16 → wt σ3 (k' + 1) (σ3 40 16) (σ 40 16) → σ3 52 (σ 40 16) = -4 → σ3 47 (σ 40 16) = s → wt σ2 (k' + 1) (σ2 40 16) p ∧ σ2 52 p = -4 ∧ σ2 47 p = s := by
        intro j3 σ3 h h1 h2 h3 h47
        obtain ⟨e1, e2, e3⟩ := as_at h
        rw [e1, e3, e2 52 _ (by decide) (by decide) (by decide) (by decide) (by decide), e2 47 _ (by decide) (by decide) (by decide) (by decide) (by decide)]
        exact ⟨wt_keep _ _ _ h2 h1 (fun a x ha _ _ => e2 a x (by omega) (by omega) (by omega) (by omega) (by omega)) (fun x _ _ => e2 52 x (by decide) (by decide) (by decide) (by decide) (by decide)) ⟨fun x => e2 44 x (by decide) (by decide) (by decide) (by decide) (by decide), fun x => e2 45 x (by decide) (by decide) (by decide) (by decide) (by decide), as_10 h⟩, h3, h47⟩
      by_cases ho : op = true
      · rw [if_pos ho] at h
        have hr : ∃ j3 σ3 p3, a_rest t n f s d i σ j1 σ1 = .inr (j3, σ3, p3) := by
          cases hz : a_rest t n f s d i σ j1 σ1 with
          | inl q => rw [hz] at h; cases h
          | inr y => exact ⟨y.1, y.2.1, y.2.2, rfl⟩
        obtain ⟨j3, σ3, p3, hr⟩ := hr
        rw [hr] at h
        have hJ0 : wJ σ1 k' (σ 40 16) (-4) 0 := Or.inl ⟨rfl, b6, b9, rfl⟩
        have hk : a_kok m (σ 40 16) j1 σ1 j3 σ3 p3 ∧ (∃ (last2 : Int) (c2 : Nat), last2 ≠ -4 ∧ wJ σ3 k' (σ 40 16) last2 c2 ∧ (σ3 46 (σ 40 16) = 5 ∧ c2 ≤ 4 ∧ (c2 : Int) = σ3 44 (σ3 48 (σ 40 16)) ∨ σ3 46 (σ 40 16) = 6)) ∧ σ3 52 (σ 40 16) = -4 ∧ ∀ a : Int, 46 ≤ a → a ≤ 50 → σ3 a (σ 40 16) = σ1 a (σ 40 16) := by
          unfold a_rest at hr
          rcases (b10 ho).2 with ⟨c1, c2, c3, c4, c5, c6⟩ | ⟨c1, c2⟩
          · rw [if_pos c1] at hr
            have e44 : σ1 44 = σ 44 := b4.2.2.1 44 (by omega) (by omega)
            have h44 := (hp.1.2.2.2.2 (a_fd (σ 42) (x_wo t n i) (a_nk σ)).toNat (by omega)).1
            rw [Int.toNat_of_nonneg c4] at h44
            have hcnt : ((0 : Nat) + (σ 44 (a_fd (σ 42) (x_wo t n i) (a_nk σ))).toNat : Int) = σ1 44 (a_fd (σ 42) (x_wo t n i) (a_nk σ)) := by rw [e44, Int.toNat_of_nonneg h44]; omega
            have hgk : ∀ s2 i2 σ2 j2 σ4 q, (fun s2 i2 σ2 => a_pat t n f s2 (d + 1) false i2 σ2) s2 i2 σ2 = .inr (j2, σ4, q) → p_inv σ2 m i2 → σ2 40 16 ≤ (i2 : Int) → 0 ≤ s2 → s2 < 3 + m → a_pok m i2 σ2 j2 σ4 q := fun s2 i2 σ2 j2 σ4 q hq g1 g2 _ _ => a_pat_ok f s2 (d + 1) false i2 σ2 j2 σ4 q hq g1 g2
            obtain ⟨last2, c2', l1, lc, lc2, l2⟩ := wt_kids (m := m) hgk (fun s2 i2 σ2 j2 σ4 q hq g1 g2 g3 => ih s2 (d + 1) false i2 σ2 j2 σ4 q hq g1 g2 g3 k' (by omega)) ⟨c4, c5⟩ _ _ _ _ _ _ _ _ hr b3 (by omega) hp0 (by omega) hcnt c2 c3 hJ0
            have own : ∀ a : Int, 46 ≤ a → a ≤ 55 → a ≠ 51 → a ≠ 55 → σ3 a (σ 40 16) = σ1 a (σ 40 16) := own_kids (m := m) hgk ⟨c4, c5⟩ _ _ _ _ _ _ _ _ hr b3 (by omega) hp0 (by omega) (Or.inl rfl) (by omega)
            have kok := a_kids_ok (m := m) hgk ⟨c4, c5⟩ _ _ _ _ _ _ _ _ hr b3 (by omega) hp0 (by omega) (Or.inl rfl) (by omega)
            have f44 : σ3 44 = σ1 44 := kok.2.2.2.2.2.2.2.1 44 (by omega) (by omega)
            refine ⟨kok, ⟨last2, c2', l1, l2, Or.inl ⟨by rw [own 46 (by omega) (by omega) (by omega) (by omega)]; exact c2, lc, by rw [own 48 (by omega) (by omega) (by omega) (by omega), c3, f44]; exact lc2⟩⟩, by rw [own 52 (by omega) (by omega) (by omega) (by omega)]; exact b7, fun a a1 a2 => own a a1 (by omega) (by omega) (by omega)⟩
          · rw [if_neg (by omega)] at hr
            have h31 := hp.2.2.2.2.1
            have hga : ∀ mu2 i2 σ2 j2 σ4 q, (fun mu2 i2 σ2 => a_pat t n f s (d + 1) mu2 i2 σ2) mu2 i2 σ2 = .inr (j2, σ4, q) → p_inv σ2 m i2 → σ2 40 16 ≤ (i2 : Int) → a_pok m i2 σ2 j2 σ4 q := fun mu2 i2 σ2 j2 σ4 q hq g1 g2 => a_pat_ok f s (d + 1) mu2 i2 σ2 j2 σ4 q hq g1 g2
            obtain ⟨last2, c2', l1, l2⟩ := wt_alts (m := m) (s0 := s) hga (fun mu2 i2 σ2 j2 σ4 q hq g1 g2 => ih s (d + 1) mu2 i2 σ2 j2 σ4 q hq g1 g2 hs0 k' (by omega)) h31 _ _ _ _ _ _ _ _ _ _ _ hr b3 (by omega) hp0 (by omega) c2 b5 hJ0
            have own : ∀ a : Int, 46 ≤ a → a ≤ 55 → a ≠ 51 → a ≠ 55 → σ3 a (σ 40 16) = σ1 a (σ 40 16) := own_alts (m := m) hga h31 _ _ _ _ _ _ _ _ _ _ _ hr b3 (by omega) hp0 (by omega) (Or.inl rfl)
            refine ⟨a_alts_ok (m := m) h31 hga _ _ _ _ _ _ _ _ _ _ _ hr (by omega) b3 (by omega) hp0 (by omega) (Or.inl rfl), ⟨last2, c2', l1, l2, Or.inr (by rw [own 46 (by omega) (by omega) (by omega) (by omega)]; exact c2)⟩, by rw [own 52 (by omega) (by omega) (by omega) (by omega)]; exact b7, fun a a1 a2 => own a a1 (by omega) (by omega) (by omega)⟩
        obtain ⟨⟨k1, k2, k3, k4, k5, k6⟩, ⟨last2, c2, l1, l2, e46⟩, e52, eo⟩ := hk
        subst k2
        have e10 : σ3 40 10 = σ1 40 10 := by rw [k5.1.1, b3.1.1]
        exact fin j3 σ3 h (by omega) (wJ_end l2 l1 e46 (nod_keep bn eo e10)) e52 (by rw [eo 47 (by decide) (by decide)]; exact b5)
      · rw [if_neg ho] at h
        refine fin j1 σ1 h (by omega) ⟨[], b6, fun c hc => absurd hc (List.not_mem_nil), b9, fun hz => absurd rfl hz, fun h6 => ?_, fun _ => Nat.zero_le _, bn, ⟨fun _ c hc => absurd hc (List.not_mem_nil), fun _ i c hc => by cases hc⟩, fun _ z => absurd rfl z⟩ b7 b5
        exact absurd h6 (bo (by cases op with | false => rfl | true => exact absurd rfl ho))
end WTQ
