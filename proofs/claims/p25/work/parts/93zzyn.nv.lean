section NVV
variable {σ : e3_H} {hi : Int}
theorem lyC_sub {R : Int → Int → Int → List (Int × Int) → Prop} : ∀ (L : List Int) (w x : Int) (V : List (Int × Int)), lyC R σ L w x V → ∀ c, c ∈ L → ∃ (w' x' : Int) (V1 : List (Int × Int)), R c w' x' V1 ∧ ∀ p, p ∈ V1 → p ∈ V := by
  intro L
  induction L with
  | nil => intro w x V _ c hc; exact absurd hc (List.not_mem_nil)
  | cons d l ih =>
    intro w x V h c hc
    obtain ⟨V1, V2, e, v1, v2⟩ := h
    rcases List.mem_cons.mp hc with z | z
    · rw [z]; exact ⟨_, _, V1, v1, fun p hp => by rw [e]; exact List.mem_append_left _ hp⟩
    · obtain ⟨w', x', V3, q1, q2⟩ := ih _ _ V2 v2 c z
      exact ⟨w', x', V3, q1, fun p hp => by rw [e]; exact List.mem_append_right _ (q2 p hp)⟩
theorem lyC_all {R : Int → Int → Int → List (Int × Int) → Prop} : ∀ (L : List Int) (w x : Int) (V : List (Int × Int)), lyC R σ L w x V → ∀ p, p ∈ V → ∃ (c w' x' : Int) (V1 : List (Int × Int)), c ∈ L ∧ R c w' x' V1 ∧ p ∈ V1 := by
  intro L
  induction L with
  | nil => intro w x V h p hp; have h : V = [] := h; rw [h] at hp; exact absurd hp (List.not_mem_nil)
  | cons d l ih =>
    intro w x V h p hp
    obtain ⟨V1, V2, e, v1, v2⟩ := h
    rw [e] at hp
    rcases List.mem_append.mp hp with z | z
    · exact ⟨d, _, _, V1, List.mem_cons_self .., v1, z⟩
    · obtain ⟨c, w', x', V3, q0, q1, q2⟩ := ih _ _ V2 v2 p z
      exact ⟨c, w', x', V3, List.mem_cons_of_mem _ q0, q1, q2⟩
/-- a NAME that is noted on every way is noted on this one -/
theorem nv_V {n : Nat} : ∀ (k : Nat) (q w x : Int) (V : List (Int × Int)), nv σ k hi q n → lyV σ k q w x V → 0 ≤ q → ∃ p, p ∈ V ∧ (σ 53 p.1 = (n : Int) ∨ σ 54 p.1 = (n : Int)) := by
  intro k
  induction k with
  | zero => intro q w x V h; exact h.elim
  | succ k ih =>
    intro q w x V hn h hq
    obtain ⟨L, V1, ⟨a1, a2⟩, e, h⟩ := h
    subst e
    rcases hn with z | z | ⟨L2, b1, b2, b3⟩
    · exact ⟨(q, x), List.mem_cons_self .., Or.inl z⟩
    · exact ⟨(q, x), List.mem_cons_self .., Or.inr z⟩
    · have e1 : ∀ y, y ∈ L2 → y ≠ -4 := fun y hy => by have := (b2 y hy).1; omega
      have hLL : L = L2 := ach_inj L L2 _ a2 e1 a1 b1
      subst hLL
      rcases h with ⟨h6, A', c, B', eA, _, _, v⟩ | ⟨h6, h5, hl, _, v⟩
      · have hm : c ∈ L := by rw [eA]; exact List.mem_append_right _ (List.mem_cons_self ..)
        rcases b3 with ⟨_, y2⟩ | ⟨y1, _⟩
        · obtain ⟨p, p1, p2⟩ := ih c _ x V1 (y2 c hm) v (by have := (b2 c hm).1; omega)
          exact ⟨p, List.mem_cons_of_mem _ p1, p2⟩
        · exact absurd h6 y1
      · rcases b3 with ⟨y1, _⟩ | ⟨_, c, hm, y2⟩
        · exact absurd y1 h6
        · obtain ⟨w', x', V3, q1, q2⟩ := lyC_sub L _ _ V1 v c hm
          obtain ⟨p, p1, p2⟩ := ih c w' x' V3 y2 q1 (by have := (b2 c hm).1; omega)
          exact ⟨p, List.mem_cons_of_mem _ (q2 p p1), p2⟩
theorem lyV_rng : ∀ (k : Nat) (q w x : Int) (V : List (Int × Int)), lyV σ k q w x V → wt σ k hi q → 0 ≤ q → q < hi → ∀ p, p ∈ V → q ≤ p.1 ∧ p.1 < hi := by
  intro k
  induction k with
  | zero => intro q w x V h; exact h.elim
  | succ k ih =>
    intro q w x V h ht hq hqh p hp
    obtain ⟨L, V1, ⟨a1, a2⟩, e, h⟩ := h
    obtain ⟨L2, b1, b2, _⟩ := ht
    have e1 : ∀ y, y ∈ L2 → y ≠ -4 := fun y hy => by have := (b2 y hy).1; omega
    have hLL : L = L2 := ach_inj L L2 _ a2 e1 a1 b1
    subst hLL
    rw [e] at hp
    rcases List.mem_cons.mp hp with z | z
    · rw [z]; exact ⟨Int.le_refl _, hqh⟩
    · have go : ∀ c, c ∈ L → ∀ (w' x' : Int) (V3 : List (Int × Int)), lyV σ k c w' x' V3 → p ∈ V3 → q ≤ p.1 ∧ p.1 < hi := fun c hc w' x' V3 v hp3 => by
        obtain ⟨c1, c2, c3⟩ := b2 c hc
        have := ih c w' x' V3 v c3 (by omega) c2 p hp3
        exact ⟨by omega, this.2⟩
      rcases h with ⟨h6, A', c, B', eA, _, _, v⟩ | ⟨h6, h5, hl, _, v⟩
      · exact go c (by rw [eA]; exact List.mem_append_right _ (List.mem_cons_self ..)) _ _ V1 v z
      · obtain ⟨c, w', x', V3, q0, q1, q2⟩ := lyC_all L _ _ V1 v p z
        exact go c q0 _ _ V3 q1 q2
end NVV
/-- NAMES on one way of a rule: all are noted, each with its SORT -/
def NV1 (σ : e3_H) (r : Int) (V : List (Int × Int)) : Prop := (∀ n : Nat, (n : Int) < σ 56 r → ∃ p, p ∈ V ∧ (σ 53 p.1 = (n : Int) ∨ σ 54 p.1 = (n : Int))) ∧ ∀ (p : Int × Int) (a : Int), p ∈ V → a = 53 ∨ a = 54 → 0 ≤ σ a p.1 → ∃ n : Nat, n < 8 ∧ σ a p.1 = (n : Int) ∧ (n : Int) < σ 56 r ∧ σ 58 (8 * r + n) = σ 47 p.1
theorem NV1_of {σ : e3_H} {nf : Nat} {Vs : Int → Int → Int → List (Int × Int)} (hN : NN σ nf) (hV : VS σ nf Vs) {f k w : Int} (hf : 0 ≤ f ∧ f < (nf : Int)) (hk : 0 ≤ k ∧ k < σ 70 f) (hw : 0 ≤ w ∧ w < σ 74 (16 * f + k)) : NV1 σ (16 * f + k) (Vs f k w) := by
  obtain ⟨lo, hi, ⟨h0, h1⟩, ⟨L, l1, l2, l3, l4, l5⟩, hR, L', m1, m2, m3, _⟩ := hN f hf.1 hf.2 k hk.1 hk.2
  have hn : ∀ c, c ∈ L → c ≠ -4 := fun c hc => by have := (l3 c hc).1; omega
  have hn' : ∀ c, c ∈ L' → c ≠ -4 := fun c hc => by have := (m2 c hc).1; omega
  have hLL : L' = L := ach_inj L' L _ hn' hn m1 l2
  subst hLL
  have hly := hV f k w hf.1 hf.2 hk.1 hk.2 hw.1 hw.2 L' l2 hn
  refine ⟨fun n hn => ?_, fun p a hp ha z => ?_⟩
  · obtain ⟨c, c1, c2⟩ := m3 n hn
    obtain ⟨w', x', V1, q1, q2⟩ := lyC_sub L' _ _ _ hly c c1
    obtain ⟨p, p1, p2⟩ := nv_V 6 c w' x' V1 c2 q1 (by have := (m2 c c1).1; omega)
    exact ⟨p, q2 p p1, p2⟩
  · obtain ⟨c, w', x', V1, q0, q1, q2⟩ := lyC_all L' _ _ _ hly p hp
    obtain ⟨c1, c2, c3⟩ := l3 c q0
    have := lyV_rng 6 c w' x' V1 q1 c3 (by omega) c2 p q2
    exact hR a p.1 ha (by omega) this.2 z
/-- EITHERS of a rule's columns -/
theorem SN1_of {σ : e3_H} {nf : Nat} (hN : NN σ nf) {f k : Int} (hf : 0 ≤ f ∧ f < (nf : Int)) (hk : 0 ≤ k ∧ k < σ 70 f) : ∃ L : List Int, ach σ (σ 72 (16 * f + k)) L ∧ ∀ c, c ∈ L → c ≠ -4 ∧ 0 ≤ c ∧ ∃ ec : Int, sn σ 6 c ec := by
  obtain ⟨lo, hi, ⟨h0, h1⟩, _, _, L', m1, m2, _, m4⟩ := hN f hf.1 hf.2 k hk.1 hk.2
  refine ⟨L', m1, fun c hc => ?_⟩
  have := (m2 c hc).1
  obtain ⟨ec, _, u⟩ := m4 c hc
  exact ⟨by omega, by omega, ec, u⟩
