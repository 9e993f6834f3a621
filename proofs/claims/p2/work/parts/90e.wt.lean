/-- children in a chain -/
def ach (σ : e3_H) : Int → List Int → Prop
  | x, [] => x = -4
  | x, c :: l => x = c ∧ ach σ (σ 52 c) l
/-- ways of children taken together -/
def wf (σ : e3_H) (k5 : Int) : Int → List Int → Int
  | w, [] => w
  | w, c :: l => wf σ k5 (a_mul w (σ 55 c) k5) l
def wfL (σ : e3_H) (k5 : Int) : List Int → Int
  | [] => 1
  | c :: l => wf σ k5 (σ 55 c) l
/-- a tree of patterns, no deeper than k, below hi -/
def wt (σ : e3_H) : Nat → Int → Int → Prop
  | 0, _, _ => False
  | k + 1, hi, q => ∃ L, ach σ (σ 51 q) L ∧ (∀ c, c ∈ L → q < c ∧ c < hi ∧ wt σ k hi c) ∧ σ 55 q = wfL σ (σ 46 q) L ∧ (L ≠ [] → σ 46 q = 5 ∨ σ 46 q = 6) ∧ (σ 46 q = 6 → L ≠ []) ∧ (σ 46 q ≠ 6 → L.length ≤ 4)
theorem ach_keep {σ σ2 : e3_H} : ∀ (L : List Int) (x : Int), ach σ x L → (∀ c, c ∈ L → σ2 52 c = σ 52 c) → ach σ2 x L := by
  intro L
  induction L with
  | nil => intro x h _; exact h
  | cons c l ih => intro x h he; exact ⟨h.1, by rw [he c (List.mem_cons_self ..)]; exact ih _ h.2 (fun y hy => he y (List.mem_cons_of_mem _ hy))⟩
theorem ach_snoc {σ σ2 : e3_H} {c q : Int} : ∀ (L : List Int) (x : Int), ach σ x (L ++ [c]) → (∀ y, y ∈ L → σ2 52 y = σ 52 y) → σ2 52 c = q → σ2 52 q = -4 → ach σ2 x (L ++ [c] ++ [q]) := by
  intro L
  induction L with
  | nil => intro x h _ hc hq; exact ⟨h.1, hc, hq⟩
  | cons d l ih => intro x h he hc hq; exact ⟨h.1, by rw [he d (List.mem_cons_self ..)]; exact ih _ h.2 (fun y hy => he y (List.mem_cons_of_mem _ hy)) hc hq⟩
theorem wf_keep {σ σ2 : e3_H} {k5 : Int} : ∀ (L : List Int) (w : Int), (∀ c, c ∈ L → σ2 55 c = σ 55 c) → wf σ2 k5 w L = wf σ k5 w L := by
  intro L
  induction L with
  | nil => intro w _; rfl
  | cons c l ih =>
    intro w he
    show wf σ2 k5 (a_mul w (σ2 55 c) k5) l = wf σ k5 (a_mul w (σ 55 c) k5) l
    rw [he c (List.mem_cons_self ..), ih _ (fun y hy => he y (List.mem_cons_of_mem _ hy))]
theorem wfL_keep {σ σ2 : e3_H} {k5 : Int} : ∀ (L : List Int), (∀ c, c ∈ L → σ2 55 c = σ 55 c) → wfL σ2 k5 L = wfL σ k5 L := by
  intro L he
  cases L with
  | nil => rfl
  | cons c l =>
    show wf σ2 k5 (σ2 55 c) l = wf σ k5 (σ 55 c) l
    rw [he c (List.mem_cons_self ..), wf_keep l _ (fun y hy => he y (List.mem_cons_of_mem _ hy))]
theorem wf_snoc {σ : e3_H} {k5 q : Int} : ∀ (L : List Int) (w : Int), wf σ k5 w (L ++ [q]) = a_mul (wf σ k5 w L) (σ 55 q) k5 := by
  intro L
  induction L with
  | nil => intro w; rfl
  | cons c l ih => intro w; exact ih _
theorem wfL_snoc {σ : e3_H} {k5 c q : Int} (L : List Int) : wfL σ k5 (L ++ [c] ++ [q]) = a_mul (wfL σ k5 (L ++ [c])) (σ 55 q) k5 := by
  cases L with
  | nil => rfl
  | cons d l => exact wf_snoc (l ++ [c]) (σ 55 d)
theorem wt_mono {σ : e3_H} : ∀ (k : Nat) (hi hi2 q : Int), wt σ k hi q → hi ≤ hi2 → wt σ k hi2 q := by
  intro k
  induction k with
  | zero => intro hi hi2 q h; exact h.elim
  | succ k ih =>
    intro hi hi2 q h hl
    obtain ⟨L, h1, h2, h3⟩ := h
    exact ⟨L, h1, fun c hc => ⟨(h2 c hc).1, by have := (h2 c hc).2.1; omega, ih _ _ _ (h2 c hc).2.2 hl⟩, h3⟩
theorem wt_keep {σ σ2 : e3_H} : ∀ (k : Nat) (hi q : Int), wt σ k hi q → q < hi → (∀ a x : Int, a = 46 ∨ a = 51 ∨ a = 55 → q ≤ x → x < hi → σ2 a x = σ a x) → (∀ x : Int, q < x → x < hi → σ2 52 x = σ 52 x) → wt σ2 k hi q := by
  intro k
  induction k with
  | zero => intro hi q h; exact h.elim
  | succ k ih =>
    intro hi q h hq e1 e2
    obtain ⟨L, h1, h2, h3, h4⟩ := h
    refine ⟨L, ?_, fun c hc => ?_, ?_, ?_⟩
    · rw [e1 51 q (Or.inr (Or.inl rfl)) (by omega) hq]
      exact ach_keep L _ h1 (fun c hc => e2 c (h2 c hc).1 (h2 c hc).2.1)
    · obtain ⟨c1, c2, c3⟩ := h2 c hc
      exact ⟨c1, c2, ih hi c c3 c2 (fun a x ha hx hx2 => e1 a x ha (by omega) hx2) (fun x hx hx2 => e2 x (by omega) hx2)⟩
    · rw [e1 55 q (Or.inr (Or.inr rfl)) (by omega) hq, e1 46 q (Or.inl rfl) (by omega) hq, wfL_keep L (fun c hc => e1 55 c (Or.inr (Or.inr rfl)) (by have := (h2 c hc).1; omega) (h2 c hc).2.1)]
      exact h3
    · rw [e1 46 q (Or.inl rfl) (by omega) hq]
      exact h4
/-- an open pattern p with the children L so far -/
def wJ (σ : e3_H) (k : Nat) (p last : Int) (c : Nat) : Prop := (last = -4 ∧ σ 51 p = -4 ∧ σ 55 p = 1 ∧ c = 0) ∨ ∃ L0 : List Int, L0.length + 1 = c ∧ (∀ c, c ∈ L0 → p < c ∧ c < last ∧ wt σ k last c) ∧ (p < last ∧ last < σ 40 16 ∧ wt σ k (σ 40 16) last) ∧ ach σ (σ 51 p) (L0 ++ [last]) ∧ σ 55 p = wfL σ (σ 46 p) (L0 ++ [last])
/-- a child more -/
theorem wJ_into {σ σ3 : e3_H} {k : Nat} {p last q : Int} {cn : Nat} (h : wJ σ k p last cn) (h0 : 0 ≤ p) (hp : p < σ 40 16) (hq : q = σ 40 16) (hq2 : q < σ3 40 16) (hfr : ∀ a x : Int, 46 ≤ a → a ≤ 55 → x < σ 40 16 → σ3 a x = σ a x) (hw : wt σ3 k (σ3 40 16) q) (h52 : σ3 52 q = -4) : wJ (a_into σ3 p last q) k p q (cn + 1) := by
  have e16 : a_into σ3 p last q 40 16 = σ3 40 16 := a_into_at 40 16 (by omega) (by omega) (by omega)
  have e46 : ∀ x : Int, a_into σ3 p last q 46 x = σ3 46 x := fun x => a_into_at 46 x (by omega) (by omega) (by omega)
  refine Or.inr ?_
  rcases h with ⟨l1, l2, l3, l9⟩ | ⟨L0, l9, l1, ⟨l2, l3, l4⟩, l5, l6⟩
  · have u : a_into σ3 p last q = e3_up (e3_up σ3 51 p q) 55 p (σ3 55 q) := by unfold a_into; rw [if_pos l1]
    refine ⟨[], by rw [l9]; rfl, fun c hc => absurd hc (List.not_mem_nil), ⟨by omega, by rw [e16]; exact hq2, ?_⟩, ?_, ?_⟩
    · rw [e16]
      refine wt_keep k _ q hw hq2 (fun a x ha hx _ => ?_) (fun x hx _ => ?_)
      · rw [u, e3_up_ne (fun z => by have := z.2; omega), e3_up_ne (fun z => by have := z.2; omega)]
      · rw [u, e3_up_ne (fun z => by have := z.2; omega), e3_up_ne (fun z => by have := z.2; omega)]
    · show a_into σ3 p last q 51 p = q ∧ a_into σ3 p last q 52 q = -4
      rw [u, e3_up_ne (ne_1 (by decide)), e3_up_self, e3_up_ne (ne_1 (by decide)), e3_up_ne (ne_1 (by decide))]
      exact ⟨rfl, h52⟩
    · show a_into σ3 p last q 55 p = a_into σ3 p last q 55 q
      rw [u, e3_up_self, e3_up_ne (fun z => by have := z.2; omega), e3_up_ne (fun z => by have := z.2; omega)]
  · have u : a_into σ3 p last q = e3_up (e3_up σ3 52 last q) 55 p (a_mul (σ3 55 p) (σ3 55 q) (σ3 46 p)) := by
      unfold a_into a_mul
      rw [if_neg (by omega)]
    have k1 : ∀ a x : Int, a ≠ 52 → x ≠ p → a_into σ3 p last q a x = σ3 a x := fun a x ha hx => by
      rw [u, e3_up_ne (fun z => hx z.2), e3_up_ne (ne_1 ha)]
    have k2 : ∀ x : Int, x ≠ last → a_into σ3 p last q 52 x = σ3 52 x := fun x hx => by
      rw [u, e3_up_ne (ne_1 (by decide)), e3_up_ne (fun z => hx z.2)]
    refine ⟨L0 ++ [last], by rw [List.length_append]; exact congrArg (· + 1) l9, fun c hc => ?_, ⟨by omega, by rw [e16]; exact hq2, ?_⟩, ?_, ?_⟩
    · have hc' : (p < c ∧ c < q ∧ c ≤ last) ∧ ∃ hi, (hi = last ∧ c < last ∨ hi = q ∧ c = last) ∧ wt σ k hi c := by
        rcases List.mem_append.mp hc with hm | hm
        · obtain ⟨m1, m2, m3⟩ := l1 c hm
          exact ⟨⟨m1, by omega, by omega⟩, last, Or.inl ⟨rfl, m2⟩, m3⟩
        · have hm := List.mem_singleton.mp hm
          rw [hm]
          exact ⟨⟨l2, by omega, by omega⟩, q, Or.inr ⟨rfl, rfl⟩, by rw [hq]; exact l4⟩
      obtain ⟨⟨d1, d2, d3⟩, hi, d4, d5⟩ := hc'
      refine ⟨d1, d2, wt_mono k hi q c (wt_keep k hi c d5 (by omega) (fun a x ha hx hx2 => ?_) (fun x hx hx2 => ?_)) (by omega)⟩
      · rw [k1 a x (by omega) (by omega)]
        exact hfr a x (by omega) (by omega) (by omega)
      · rw [k2 x (by omega)]
        exact hfr 52 x (by decide) (by decide) (by omega)
    · rw [e16]
      refine wt_keep k _ q hw hq2 (fun a x ha hx _ => k1 a x (by omega) (by omega)) (fun x hx _ => k2 x (by omega))
    · have e51 : a_into σ3 p last q 51 p = σ 51 p := by
        rw [u, e3_up_ne (ne_1 (by decide)), e3_up_ne (ne_1 (by decide))]
        exact hfr 51 p (by decide) (by decide) hp
      rw [e51]
      refine ach_snoc L0 _ l5 (fun y hy => ?_) ?_ ?_
      · have := (l1 y hy).2.1
        rw [k2 y (by omega)]
        exact hfr 52 y (by decide) (by decide) (by omega)
      · rw [u, e3_up_ne (ne_1 (by decide)), e3_up_self]
      · rw [k2 q (by omega)]
        exact h52
    · have e55 : a_into σ3 p last q 55 p = a_mul (σ3 55 p) (σ3 55 q) (σ3 46 p) := by rw [u, e3_up_self]
      rw [e55, wfL_snoc, e46, k1 55 q (by decide) (by omega), wfL_keep (σ := σ) (L0 ++ [last]) (fun c hc => by
        have hcp : p < c ∧ c ≤ last := by
          rcases List.mem_append.mp hc with hm | hm
          · have := l1 c hm; omega
          · have hm := List.mem_singleton.mp hm; omega
        rw [k1 55 c (by decide) (by omega)]
        exact hfr 55 c (by decide) (by decide) (by omega)), hfr 55 p (by decide) (by decide) hp, hfr 46 p (by decide) (by decide) hp, l6]
/-- an open pattern is closed -/
theorem wJ_end {σ : e3_H} {k : Nat} {p last : Int} {cn : Nat} (h : wJ σ k p last cn) (hl : last ≠ -4) (h46 : σ 46 p = 5 ∧ cn ≤ 4 ∨ σ 46 p = 6) : wt σ (k + 1) (σ 40 16) p := by
  rcases h with ⟨l1, _⟩ | ⟨L0, l9, l1, ⟨l2, l3, l4⟩, l5, l6⟩
  · exact absurd l1 hl
  · refine ⟨L0 ++ [last], l5, fun c hc => ?_, l6, fun _ => by omega, fun _ => by simp, fun h6 => by rw [List.length_append]; show L0.length + 1 ≤ 4; omega⟩
    rcases List.mem_append.mp hc with hm | hm
    · obtain ⟨m1, m2, m3⟩ := l1 c hm
      exact ⟨m1, by omega, wt_mono k last _ c m3 (by omega)⟩
    · have hm := List.mem_singleton.mp hm
      rw [hm]
      exact ⟨l2, l3, l4⟩
