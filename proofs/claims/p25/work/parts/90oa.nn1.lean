/-- a NAME is noted on every way through a pattern -/
def nv (σ : e3_H) : Nat → Int → Int → Nat → Prop
  | 0, _, _, _ => False
  | k + 1, hi, q, w => σ 53 q = (w : Int) ∨ σ 54 q = (w : Int) ∨ ∃ L, ach σ (σ 51 q) L ∧ (∀ c, c ∈ L → q < c ∧ c < hi) ∧ ((σ 46 q = 6 ∧ ∀ c, c ∈ L → nv σ k hi c w) ∨ (σ 46 q ≠ 6 ∧ ∃ c, c ∈ L ∧ nv σ k hi c w))
theorem nv_mono {σ : e3_H} {w : Nat} : ∀ (k : Nat) (hi hi2 q : Int), nv σ k hi q w → hi ≤ hi2 → nv σ k hi2 q w := by
  intro k
  induction k with
  | zero => intro hi hi2 q h; exact h.elim
  | succ k ih =>
    intro hi hi2 q h hl
    rcases h with z | z | ⟨L, a1, a2, a3⟩
    · exact Or.inl z
    · exact Or.inr (Or.inl z)
    · refine Or.inr (Or.inr ⟨L, a1, fun c hc => ⟨(a2 c hc).1, by have := (a2 c hc).2; omega⟩, ?_⟩)
      rcases a3 with ⟨y1, y2⟩ | ⟨y1, c, y2, y3⟩
      · exact Or.inl ⟨y1, fun c hc => ih hi hi2 c (y2 c hc) hl⟩
      · exact Or.inr ⟨y1, c, y2, ih hi hi2 c y3 hl⟩
theorem nv_keep {σ σ2 : e3_H} {w : Nat} : ∀ (k : Nat) (hi q : Int), nv σ k hi q w → q < hi → (∀ a x : Int, a = 46 ∨ a = 51 ∨ a = 53 → q ≤ x → x < hi → σ2 a x = σ a x) → (∀ x : Int, q ≤ x → x < hi → σ 54 x = (w : Int) → σ2 54 x = (w : Int)) → (∀ x : Int, q < x → x < hi → σ2 52 x = σ 52 x) → nv σ2 k hi q w := by
  intro k
  induction k with
  | zero => intro hi q h; exact h.elim
  | succ k ih =>
    intro hi q h hq e1 e2 e3
    rcases h with z | z | ⟨L, a1, a2, a3⟩
    · exact Or.inl (by rw [e1 53 q (by decide) (Int.le_refl _) hq]; exact z)
    · exact Or.inr (Or.inl (e2 q (Int.le_refl _) hq z))
    · refine Or.inr (Or.inr ⟨L, ?_, a2, ?_⟩)
      · rw [e1 51 q (by decide) (Int.le_refl _) hq]
        exact ach_keep L _ a1 (fun c hc => e3 c (a2 c hc).1 (a2 c hc).2)
      · rw [e1 46 q (by decide) (Int.le_refl _) hq]
        have go : ∀ c, c ∈ L → nv σ k hi c w → nv σ2 k hi c w := fun c hc z => by
          obtain ⟨c1, c2⟩ := a2 c hc
          exact ih hi c z c2 (fun a x ha hx hx2 => e1 a x ha (by omega) hx2) (fun x hx hx2 => e2 x (by omega) hx2) (fun x hx hx2 => e3 x (by omega) hx2)
        rcases a3 with ⟨y1, y2⟩ | ⟨y1, c, y2, y3⟩
        · exact Or.inl ⟨y1, fun c hc => go c hc (y2 c hc)⟩
        · exact Or.inr ⟨y1, c, y2, go c y2 y3⟩
/-- patterns that were read: their NAMES are new, bound, of their SORTS -/
def NB (r : Int) (σ σ2 : e3_H) : Prop := ∀ a x : Int, a = 53 ∨ a = 54 → σ 40 16 ≤ x → x < σ2 40 16 → 0 ≤ σ2 a x → ∃ w : Nat, w < 8 ∧ σ2 a x = (w : Int) ∧ b_bit (σ 40 31) w = false ∧ b_bit (σ2 40 31) w = true ∧ σ2 58 (8 * r + w) = σ2 47 x
theorem NB_eq {r : Int} {σ σ2 σ3 : e3_H} (h : NB r σ σ2) (e : ∀ a x : Int, a = 47 ∨ a = 53 ∨ a = 54 ∨ a = 58 → σ3 a x = σ2 a x) (e16 : σ3 40 16 = σ2 40 16) (e31 : σ3 40 31 = σ2 40 31) : NB r σ σ3 := by
  intro a x ha x0 x1 z
  rw [e a x (by omega)] at z
  rw [e16] at x1
  obtain ⟨w, w1, w2, w3, w4, w5⟩ := h a x ha x0 x1 z
  exact ⟨w, w1, by rw [e a x (by omega)]; exact w2, w3, by rw [e31]; exact w4, by rw [e 58 _ (by decide), e 47 _ (by decide)]; exact w5⟩
theorem NB_tr {r : Int} {σ σ2 σ3 : e3_H} (h : NB r σ σ2) (h2 : NB r σ2 σ3) (hfr : ∀ a x : Int, a = 47 ∨ a = 53 ∨ a = 54 → x < σ2 40 16 → σ3 a x = σ2 a x) (hp : nm_post r σ σ2) (hp2 : nm_post r σ2 σ3) : NB r σ σ3 := by
  intro a x ha x0 x1 z
  by_cases hx : x < σ2 40 16
  · rw [hfr a x (by omega) hx] at z
    obtain ⟨w, w1, w2, w3, w4, w5⟩ := h a x ha x0 hx z
    exact ⟨w, w1, by rw [hfr a x (by omega) hx]; exact w2, w3, hp2.1 w w1 w4, by rw [hp2.2.2.1 w w1 w4, hfr 47 x (by decide) hx]; exact w5⟩
  · obtain ⟨w, w1, w2, w3, w4, w5⟩ := h2 a x ha (by omega) x1 z
    refine ⟨w, w1, w2, ?_, w4, w5⟩
    cases hz : b_bit (σ 40 31) w with
    | false => rfl
    | true => rw [hp.1 w w1 hz] at w3; cases w3
theorem bind_nm {σ σ2 : e3_H} {m i : Nat} {r s v x : Int} (hp : p_inv σ m i) (hr : σ 40 27 = r) (hn : nm_inv r m σ) (hb : a_binds σ s v = some (x, σ2)) : ∃ w : Nat, w < 8 ∧ x = (w : Int) ∧ b_bit (σ 40 31) w = false ∧ σ2 40 31 = b_set (σ 40 31) w ∧ σ2 58 (8 * r + w) = s := by
  subst hr
  obtain ⟨hk, h16, h27, h56, h31, h55⟩ := hp
  unfold a_binds at hb
  split at hb
  · split at hb
    · cases hb
    · rename_i h8
      cases hb
      have ew : ((a_nm σ : Nat) : Int) = σ 56 (σ 40 27) := Int.toNat_of_nonneg h56.1
      have e27 : a_bind0 σ v 40 27 = σ 40 27 := by unfold a_bind0; rw [e3_up_ne (ne_1 (by decide)), e3_up_ne (ne_1 (by decide))]
      have e31 : a_bind0 σ v 40 31 = σ 40 31 := by unfold a_bind0; rw [e3_up_ne (ne_1 (by decide)), e3_up_ne (ne_1 (by decide))]
      refine ⟨a_nm σ, by omega, ew.symm, ?_, ?_, ?_⟩
      · cases hz : b_bit (σ 40 31) (a_nm σ) with
        | false => rfl
        | true => have := hn.1 (a_nm σ) (by omega) hz; omega
      · unfold a_bind1
        rw [e3_up_self, e31]
      · unfold a_bind1
        rw [e3_up_ne (ne_1 (by decide)), e27, e3_up_self]
  · split at hb
    · cases hb
    · rename_i hneg hbit
      cases hb
      have hr := a_fd_rg (a_rn σ) v (a_nm σ)
      have hr2 : a_no σ v = a_fd (a_rn σ) v (a_nm σ) := rfl
      have hnm : (a_nm σ : Int) = σ 56 (σ 40 27) := Int.toNat_of_nonneg h56.1
      rw [← hr2] at hr
      have hlt : 0 ≤ a_no σ v ∧ a_no σ v < 8 := by
        rcases hr with z | ⟨z1, z2, _⟩
        · omega
        · exact ⟨z1, by omega⟩
      have e : (((a_no σ v).toNat : Nat) : Int) = a_no σ v := Int.toNat_of_nonneg hlt.1
      refine ⟨(a_no σ v).toNat, by omega, e.symm, ?_, ?_, ?_⟩
      · cases hz : b_bit (σ 40 31) (a_no σ v).toNat with
        | false => rfl
        | true => exact absurd hz hbit
      · unfold a_bind1
        rw [e3_up_self]
      · unfold a_bind1
        rw [e3_up_ne (ne_1 (by decide)), e3_up_self]
section NN1
variable {n m : Nat} {t : Int → Int} {r : Int}
theorem nb_leaf {σ τ : e3_H} (h16 : τ 40 16 = σ 40 16 + 1) (h53 : τ 53 (σ 40 16) = -4) (h54 : τ 54 (σ 40 16) = -4) (h31 : τ 40 31 = σ 40 31) : NB r σ τ ∧ (∀ w : Nat, w < 8 → b_bit (τ 40 31) w = true → b_bit (σ 40 31) w = true ∨ τ 53 (σ 40 16) = (w : Int)) ∧ τ 53 (σ 40 16) = -4 := by
  refine ⟨fun a x ha x0 x1 z => ?_, fun w _ hb => Or.inl (by rw [← h31]; exact hb), h53⟩
  have hx : x = σ 40 16 := by omega
  rw [hx] at z
  rcases ha with y | y
  · rw [y, h53] at z; omega
  · rw [y, h54] at z; omega
theorem np_facts {σ : e3_H} {kd s A T : Int} : a_at (a_npat σ kd s) (σ 40 16) A T 40 16 = σ 40 16 + 1 ∧ a_at (a_npat σ kd s) (σ 40 16) A T 53 (σ 40 16) = -4 ∧ a_at (a_npat σ kd s) (σ 40 16) A T 54 (σ 40 16) = -4 ∧ a_at (a_npat σ kd s) (σ 40 16) A T 40 31 = σ 40 31 := by
  unfold a_at a_npat
  refine ⟨?_, ?_, ?_, ?_⟩ <;> simp (disch := omega) only [e3_up_self, e3_up_ne]
theorem nn_beg {σ σ2 : e3_H} {s : Int} {mu op : Bool} {i j : Nat} (h : a_beg t n s mu i σ = .inr (j, σ2, op)) (hp : p_inv σ m i) (hst : σ 40 16 ≤ (i : Int)) (hr : σ 40 27 = r) (hn : nm_inv r m σ) (hs : 0 ≤ s ∧ s < 3 + m) : NB r σ σ2 ∧ (∀ w : Nat, w < 8 → b_bit (σ2 40 31) w = true → b_bit (σ 40 31) w = true ∨ σ2 53 (σ 40 16) = (w : Int)) ∧ (op = true → σ2 53 (σ 40 16) = -4) := by
  have cl : ∀ (kd A T : Int), NB r σ (a_at (a_npat σ kd s) (σ 40 16) A T) ∧ (∀ w : Nat, w < 8 → b_bit (a_at (a_npat σ kd s) (σ 40 16) A T 40 31) w = true → b_bit (σ 40 31) w = true ∨ a_at (a_npat σ kd s) (σ 40 16) A T 53 (σ 40 16) = (w : Int)) ∧ (op = true → a_at (a_npat σ kd s) (σ 40 16) A T 53 (σ 40 16) = -4) := fun kd A T => by
    obtain ⟨f1, f2, f3, f4⟩ := np_facts (σ := σ) (kd := kd) (s := s) (A := A) (T := T)
    obtain ⟨g1, g2, g3⟩ := nb_leaf (r := r) f1 f2 f3 f4
    exact ⟨g1, g2, fun _ => g3⟩
  unfold a_beg at h
  split at h
  · cases h
  split at h
  · split at h
    · cases h
    · rename_i k σb hb
      cases h
      have p1 := p_npat_inv (kd := 0) (s := s) hp hst
      have e27 : a_npat σ 0 s 40 27 = r := by unfold a_npat; simp (disch := omega) only [e3_up_self, e3_up_ne]; exact hr
      have n1 : nm_inv r m (a_npat σ 0 s) ∧ nm_post r σ (a_npat σ 0 s) := nm_eq hn (by unfold a_npat; simp (disch := omega) only [e3_up_self, e3_up_ne]) (by funext x; unfold a_npat; simp (disch := omega) only [e3_up_self, e3_up_ne]) (by funext x; unfold a_npat; simp (disch := omega) only [e3_up_self, e3_up_ne])
      obtain ⟨w, w1, w2, w3, w4, w5⟩ := bind_nm p1 e27 n1.1 hb
      obtain ⟨u1, u2⟩ := binds_at hb
      have a16 : a_npat σ 0 s 40 16 = σ 40 16 + 1 := by unfold a_npat; simp (disch := omega) only [e3_up_self, e3_up_ne]
      have a31 : a_npat σ 0 s 40 31 = σ 40 31 := by unfold a_npat; simp (disch := omega) only [e3_up_self, e3_up_ne]
      have a47 : a_npat σ 0 s 47 (σ 40 16) = s := by unfold a_npat; simp (disch := omega) only [e3_up_self, e3_up_ne]
      have a54 : a_npat σ 0 s 54 (σ 40 16) = -4 := by unfold a_npat; simp (disch := omega) only [e3_up_self, e3_up_ne]
      rw [a31] at w3 w4
      have t16 : a_at (e3_up σb 53 (σ 40 16) k) (σ 40 16) 0 0 40 16 = σ 40 16 + 1 := by unfold a_at; simp (disch := omega) only [e3_up_self, e3_up_ne]; rw [u2]; exact a16
      have t31 : a_at (e3_up σb 53 (σ 40 16) k) (σ 40 16) 0 0 40 31 = b_set (σ 40 31) w := by unfold a_at; simp (disch := omega) only [e3_up_self, e3_up_ne]; exact w4
      have t53 : a_at (e3_up σb 53 (σ 40 16) k) (σ 40 16) 0 0 53 (σ 40 16) = (w : Int) := by unfold a_at; simp (disch := omega) only [e3_up_self, e3_up_ne]; exact w2
      have t54 : a_at (e3_up σb 53 (σ 40 16) k) (σ 40 16) 0 0 54 (σ 40 16) = -4 := by unfold a_at; simp (disch := omega) only [e3_up_self, e3_up_ne]; rw [u1 54 _ (by decide) (by decide) (by decide) (by decide)]; exact a54
      have t47 : a_at (e3_up σb 53 (σ 40 16) k) (σ 40 16) 0 0 47 (σ 40 16) = s := by unfold a_at; simp (disch := omega) only [e3_up_self, e3_up_ne]; rw [u1 47 _ (by decide) (by decide) (by decide) (by decide)]; exact a47
      have t58 : a_at (e3_up σb 53 (σ 40 16) k) (σ 40 16) 0 0 58 (8 * r + w) = s := by unfold a_at; simp (disch := omega) only [e3_up_self, e3_up_ne]; exact w5
      have h31 := hp.2.2.2.2.1
      refine ⟨fun a x ha x0 x1 z => ?_, fun w' hw' hb' => ?_, fun z => by cases z⟩
      · rw [t16] at x1
        have hx : x = σ 40 16 := by omega
        subst hx
        rcases ha with y | y
        · subst y
          exact ⟨w, w1, t53, w3, by rw [t31, b_set_bit h31 w1 w1, decide_eq_true rfl, Bool.or_true], by rw [t58, t47]⟩
        · rw [y, t54] at z; omega
      · rw [t31, b_set_bit h31 w1 hw', Bool.or_eq_true, decide_eq_true_eq] at hb'
        rcases hb' with y | y
        · exact Or.inl y
        · exact Or.inr (by rw [t53, y])
  split at h
  · split at h
    · cases h
    · rename_i j2 σ3 p3 hr3
      cases h
      obtain ⟨hij, x, y, e⟩ := a_rng_ok hr3
      subst e
      obtain ⟨f1, f2, f3, f4⟩ := np_facts (σ := σ) (kd := 1) (s := s) (A := 0) (T := 0)
      obtain ⟨g1, g2, g3⟩ := nb_leaf (r := r) (σ := σ) (τ := e3_up (e3_up (a_at (a_npat σ 1 s) (σ 40 16) 0 0) 48 (σ 40 16) x) 49 (σ 40 16) y) (by rw [e3_up_ne (ne_1 (by decide)), e3_up_ne (ne_1 (by decide))]; exact f1) (by rw [e3_up_ne (ne_1 (by decide)), e3_up_ne (ne_1 (by decide))]; exact f2) (by rw [e3_up_ne (ne_1 (by decide)), e3_up_ne (ne_1 (by decide))]; exact f3) (by rw [e3_up_ne (ne_1 (by decide)), e3_up_ne (ne_1 (by decide))]; exact f4)
      exact ⟨g1, g2, fun z => by cases z⟩
  split at h
  · cases h; exact cl _ _ _
  split at h
  · cases h; exact cl _ _ _
  split at h
  · cases h; exact cl _ _ _
  split at h
  · cases h; exact cl _ _ _
  split at h
  · split at h
    · split at h
      · cases h
      · cases h; exact cl _ _ _
    · cases h; exact cl _ _ _
  split at h
  · cases h; exact cl _ _ _
  · cases h; exact cl _ _ _
theorem nn_as {σ σ1 σ2 : e3_H} {j j2 k : Nat} {p p2 : Int} (h : a_as t n (.inr (j, σ1, p)) = .inr (j2, σ2, p2)) (hp : p_inv σ1 m j) (hr : σ1 40 27 = r) (hn : nm_inv r m σ1) (hs : 0 ≤ σ1 47 p ∧ σ1 47 p < 3 + m) (h54 : σ1 54 p = -4) (hpx : σ 40 16 ≤ p ∧ p < σ1 40 16) (hmo : ∀ w : Nat, w < 8 → b_bit (σ 40 31) w = true → b_bit (σ1 40 31) w = true) (hNB : NB r σ σ1) (hCV : ∀ w : Nat, w < 8 → b_bit (σ1 40 31) w = true → b_bit (σ 40 31) w = true ∨ nv σ1 (k + 1) (σ1 40 16) p w) : NB r σ σ2 ∧ ∀ w : Nat, w < 8 → b_bit (σ2 40 31) w = true → b_bit (σ 40 31) w = true ∨ nv σ2 (k + 1) (σ2 40 16) p2 w := by
  have h31 := hp.2.2.2.2.1
  unfold a_as at h
  simp only at h
  split at h
  · split at h
    · split at h
      · cases h
      · rename_i x σ3 hb
        cases h
        obtain ⟨w, w1, w2, w3, w4, w5⟩ := bind_nm hp hr hn hb
        obtain ⟨u1, u2⟩ := binds_at hb
        have np := (nm_bind hp hr hn hs hb).2
        have t16 : e3_up σ3 54 p x 40 16 = σ1 40 16 := by rw [e3_up_ne (ne_1 (by decide))]; exact u2
        have t31 : e3_up σ3 54 p x 40 31 = b_set (σ1 40 31) w := by rw [e3_up_ne (ne_1 (by decide))]; exact w4
        have t54 : e3_up σ3 54 p x 54 p = (w : Int) := by rw [e3_up_self]; exact w2
        have tne : ∀ a y : Int, a ≠ 40 → a ≠ 56 → a ≠ 57 → a ≠ 58 → ¬ (a = 54 ∧ y = p) → e3_up σ3 54 p x a y = σ1 a y := fun a y a1 a2 a3 a4 a5 => by rw [e3_up_ne a5]; exact u1 a y a1 a2 a3 a4
        have t58 : ∀ y : Int, e3_up σ3 54 p x 58 y = σ3 58 y := fun y => e3_up_ne (ne_1 (by decide))
        refine ⟨fun a y ha y0 y1 z => ?_, fun w' hw' hb' => ?_⟩
        · rw [t16] at y1
          by_cases hc : a = 54 ∧ y = p
          · obtain ⟨c1, c2⟩ := hc
            subst c1
            subst c2
            refine ⟨w, w1, t54, ?_, by rw [t31, b_set_bit h31 w1 w1, decide_eq_true rfl, Bool.or_true], by rw [t58, w5, tne 47 _ (by decide) (by decide) (by decide) (by decide) (fun q => absurd q.1 (by decide))]⟩
            cases hz : b_bit (σ 40 31) w with
            | false => rfl
            | true => rw [hmo w w1 hz] at w3; cases w3
          · rw [tne a y (by omega) (by omega) (by omega) (by omega) hc] at z ⊢
            obtain ⟨v, v1, v2, v3, v4, v5⟩ := hNB a y ha y0 y1 z
            refine ⟨v, v1, v2, v3, by rw [t31, b_set_bit h31 w1 v1, v4, Bool.true_or], ?_⟩
            rw [t58, np.2.2.1 v v1 v4, tne 47 y (by decide) (by decide) (by decide) (by decide) (fun q => absurd q.1 (by decide))]
            exact v5
        · rw [t31, b_set_bit h31 w1 hw', Bool.or_eq_true, decide_eq_true_eq] at hb'
          rcases hb' with y | y
          · rcases hCV w' hw' y with z | z
            · exact Or.inl z
            · refine Or.inr ?_
              rw [t16]
              refine nv_keep (k + 1) _ p z hpx.2 (fun a x ha _ _ => tne a x (by omega) (by omega) (by omega) (by omega) (fun q => by omega)) (fun x hx hx2 q => ?_) (fun x _ _ => tne 52 x (by decide) (by decide) (by decide) (by decide) (fun q => absurd q.1 (by decide)))
              rw [tne 54 x (by decide) (by decide) (by decide) (by decide) (fun q2 => by rw [q2.2, h54] at q; omega)]
              exact q
          · rw [y]
            exact Or.inr (Or.inr (Or.inl t54))
    · cases h
  · cases h
    exact ⟨hNB, hCV⟩
end NN1
