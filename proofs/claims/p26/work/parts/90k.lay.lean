/-- children visited in a chain: places from x on -/
def lyC (R : Int → Int → Int → List (Int × Int) → Prop) (σ : e3_H) : List Int → Int → Int → List (Int × Int) → Prop
  | [], _, _, V => V = []
  | c :: l, w, x, V => ∃ V1 V2, V = V1 ++ V2 ∧ R c (w / wp σ l) x V1 ∧ lyC R σ l (w % wp σ l) (x + 1) V2
/-- the patterns that one way of a pattern visits, each with its place -/
def lyV (σ : e3_H) : Nat → Int → Int → Int → List (Int × Int) → Prop
  | 0, _, _, _, _ => False
  | k + 1, q, w, x, V => ∃ L V1, (ach σ (σ 51 q) L ∧ ∀ c, c ∈ L → c ≠ -4) ∧ V = (q, x) :: V1 ∧ ((σ 46 q = 6 ∧ ∃ A c B, L = A ++ c :: B ∧ ws σ A ≤ w ∧ w - ws σ A < σ 55 c ∧ lyV σ k c (w - ws σ A) x V1) ∨ (σ 46 q ≠ 6 ∧ (L ≠ [] → σ 46 q = 5) ∧ L.length ≤ 4 ∧ (0 ≤ w ∧ w < wp σ L) ∧ lyC (lyV σ k) σ L w (8 * x + 1) V1))
theorem le_wp {σ : e3_H} : ∀ (L : List Int), (∀ c, c ∈ L → 1 ≤ σ 55 c) → ∀ c, c ∈ L → σ 55 c ≤ wp σ L := by
  intro L
  induction L with
  | nil => intro _ c hc; exact absurd hc (List.not_mem_nil)
  | cons d l ih =>
    intro h c hc
    have h1 := h d (List.mem_cons_self ..)
    have hr : ∀ y, y ∈ l → 1 ≤ σ 55 y := fun y hy => h y (List.mem_cons_of_mem _ hy)
    have hm := mul_1 h1 (wp_1 l hr)
    show σ 55 c ≤ σ 55 d * wp σ l
    rcases List.mem_cons.mp hc with hz | hz
    · rw [hz]; exact hm.2.1
    · have := ih hr c hz; omega
theorem le_ws {σ : e3_H} : ∀ (L : List Int), (∀ c, c ∈ L → 1 ≤ σ 55 c) → ∀ c, c ∈ L → σ 55 c ≤ ws σ L := by
  intro L
  induction L with
  | nil => intro _ c hc; exact absurd hc (List.not_mem_nil)
  | cons d l ih =>
    intro h c hc
    have h1 := h d (List.mem_cons_self ..)
    have hr : ∀ y, y ∈ l → 1 ≤ σ 55 y := fun y hy => h y (List.mem_cons_of_mem _ hy)
    have h0 := ws_0 l hr
    show σ 55 c ≤ σ 55 d + ws σ l
    rcases List.mem_cons.mp hc with hz | hz
    · rw [hz]; omega
    · have := ih hr c hz; omega
theorem lyC_ex {R : Int → Int → Int → List (Int × Int) → Prop} {σ : e3_H} : ∀ (L : List Int) (w x : Int), (∀ c, c ∈ L → 1 ≤ σ 55 c) → (∀ c, c ∈ L → ∀ w x, 0 ≤ w → w < σ 55 c → ∃ V, R c w x V) → 0 ≤ w → w < wp σ L → ∃ V, lyC R σ L w x V := by
  intro L
  induction L with
  | nil => intro w x _ _ _ _; exact ⟨[], rfl⟩
  | cons c l ih =>
    intro w x h hR h0 h1
    have hr : ∀ y, y ∈ l → 1 ≤ σ 55 y := fun y hy => h y (List.mem_cons_of_mem _ hy)
    have hp := wp_1 l hr
    have h1 : w < σ 55 c * wp σ l := h1
    obtain ⟨V1, v1⟩ := hR c (List.mem_cons_self ..) (w / wp σ l) x (Int.ediv_nonneg h0 (by omega)) (Int.ediv_lt_of_lt_mul (by omega) h1)
    obtain ⟨V2, v2⟩ := ih (w % wp σ l) (x + 1) hr (fun y hy => hR y (List.mem_cons_of_mem _ hy)) (Int.emod_nonneg _ (by omega)) (Int.emod_lt_of_pos _ (by omega))
    exact ⟨V1 ++ V2, V1, V2, rfl, v1, v2⟩
/-- which alternative a way takes -/
theorem alt_ex {σ : e3_H} : ∀ (L : List Int) (w : Int), (∀ c, c ∈ L → 1 ≤ σ 55 c) → 0 ≤ w → w < ws σ L → ∃ A c B, L = A ++ c :: B ∧ ws σ A ≤ w ∧ w - ws σ A < σ 55 c := by
  intro L
  induction L with
  | nil => intro w _ h0 h1; exact absurd h1 (by show ¬ w < 0; omega)
  | cons d l ih =>
    intro w h h0 h1
    have h1 : w < σ 55 d + ws σ l := h1
    by_cases hz : w < σ 55 d
    · exact ⟨[], d, l, rfl, h0, by show w - 0 < σ 55 d; omega⟩
    · obtain ⟨A, c, B, e1, e2, e3⟩ := ih (w - σ 55 d) (fun y hy => h y (List.mem_cons_of_mem _ hy)) (by omega) (by omega)
      exact ⟨d :: A, c, B, by rw [e1]; rfl, by show σ 55 d + ws σ A ≤ w; omega, by show w - (σ 55 d + ws σ A) < σ 55 c; omega⟩
theorem wfL_5 {σ : e3_H} {L : List Int} (h : ∀ c, c ∈ L → 1 ≤ σ 55 c) (hl : wfL σ 5 L < 1000) : wfL σ 5 L = wp σ L := by
  cases L with
  | nil => rfl
  | cons c l => exact wf_5 l (σ 55 c) (h c (List.mem_cons_self ..)) (fun y hy => h y (List.mem_cons_of_mem _ hy)) hl
theorem wfL_6 {σ : e3_H} {L : List Int} (hn : L ≠ []) (h : ∀ c, c ∈ L → 1 ≤ σ 55 c) (hl : wfL σ 6 L < 1000) : wfL σ 6 L = ws σ L := by
  cases L with
  | nil => exact absurd rfl hn
  | cons c l => exact wf_6 l (σ 55 c) (h c (List.mem_cons_self ..)) (fun y hy => h y (List.mem_cons_of_mem _ hy)) hl
/-- every way of a tree visits something -/
theorem lyV_ex {σ : e3_H} {hi : Int} (h55 : ∀ y : Int, 0 ≤ y → y < hi → 1 ≤ σ 55 y) : ∀ (k : Nat) (q w x : Int), wt σ k hi q → 0 ≤ q → 0 ≤ w → w < σ 55 q → σ 55 q < 1000 → ∃ V, lyV σ k q w x V := by
  intro k
  induction k with
  | zero => intro q w x h; exact h.elim
  | succ k ih =>
    intro q w x h q0 h0 h1 h2
    obtain ⟨L, l1, l2, l3, l4, l5, l6⟩ := h
    have hc : ∀ c, c ∈ L → 1 ≤ σ 55 c := fun c hc => h55 c (by have := (l2 c hc).1; omega) (l2 c hc).2.1
    have hne : ∀ c, c ∈ L → c ≠ -4 := fun c hc => by have := (l2 c hc).1; omega
    rw [l3] at h1 h2
    by_cases h6 : σ 46 q = 6
    · rw [h6] at h1 h2
      have e := wfL_6 (l5 h6) hc h2
      rw [e] at h1 h2
      obtain ⟨A, c, B, a1, a2, a3⟩ := alt_ex L w hc h0 h1
      have hm : c ∈ L := by rw [a1]; exact List.mem_append_right _ (List.mem_cons_self ..)
      have := le_ws L hc c hm
      obtain ⟨V, v⟩ := ih c (w - ws σ A) x (l2 c hm).2.2 (by have := (l2 c hm).1; omega) (by omega) a3 (by omega)
      exact ⟨(q, x) :: V, L, V, ⟨l1, hne⟩, rfl, Or.inl ⟨h6, A, c, B, a1, a2, a3, v⟩⟩
    · have e : wfL σ (σ 46 q) L = wp σ L := by
        by_cases hn : L = []
        · rw [hn]; rfl
        · rcases l4 hn with z | z
          · rw [z] at h2 ⊢
            exact wfL_5 hc h2
          · exact absurd z h6
      rw [e] at h1 h2
      obtain ⟨V, v⟩ := lyC_ex (R := lyV σ k) L w (8 * x + 1) hc (fun c hcm w x w0 w1 => ih c w x (l2 c hcm).2.2 (by have := (l2 c hcm).1; omega) w0 w1 (by have := le_wp L hc c hcm; omega)) h0 h1
      refine ⟨(q, x) :: V, L, V, ⟨l1, hne⟩, rfl, Or.inr ⟨h6, fun hn => ?_, l6.1 h6, ⟨h0, h1⟩, v⟩⟩
      rcases l4 hn with z | z
      · exact z
      · exact absurd z h6
