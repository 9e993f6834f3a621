/-- children in a chain -/
def ach (σ : e3_H) : Int → List Int → Prop
  | x, [] => x = -4
  | x, c :: l => x = c ∧ ach σ (σ 52 c) l
/-- ways of children taken together -/
def wf (σ : e3_H) (k5 : Int) : Int → List Int → Int
  | w, [] => w
  | w, c :: l => wf σ k5 (a_mul w (σ 55 c) k5) l
def wfL (σ : e3_H) (k5 : Int) : List Int → Int
  | [] => 1
  | c :: l => wf σ k5 (σ 55 c) l
/-- a pattern's own row keeps to its SORT -/
def nod (σ : e3_H) (q : Int) : Prop := 0 ≤ σ 47 q ∧ (σ 46 q = 1 → σ 47 q = 0 ∧ (-999999999 ≤ σ 48 q ∧ σ 48 q ≤ 999999999) ∧ (-999999999 ≤ σ 49 q ∧ σ 49 q ≤ 999999999)) ∧ (σ 46 q = 2 → σ 47 q = 1 ∧ (σ 48 q = 0 ∨ σ 48 q = 1)) ∧ (σ 46 q = 3 → σ 47 q = 2 ∧ σ 50 q ≠ -1 ∧ σ 50 q ≠ -9223372036854775808) ∧ (σ 46 q = 4 → 3 ≤ σ 47 q) ∧ (σ 46 q = 5 → 3 ≤ σ 47 q ∧ 0 ≤ σ 48 q ∧ σ 48 q < σ 40 10) ∧ (0 ≤ σ 46 q ∧ σ 46 q ≤ 6)
/-- the SORTS of a pattern's children -/
def chs (σ : e3_H) (p : Int) (L : List Int) : Prop := (σ 46 p = 6 → ∀ c, c ∈ L → σ 47 c = σ 47 p) ∧ (σ 46 p = 5 → ∀ (i : Nat) (c : Int), L[i]? = some c → σ 47 c = σ 45 (4 * σ 48 p + i))
def ty5 (σ : e3_H) (q : Int) (L : List Int) : Prop := nod σ q ∧ chs σ q L ∧ (σ 46 q = 5 → L ≠ [] → (L.length : Int) = σ 44 (σ 48 q))
/-- the tables of KINDS are the same -/
def e_k (σ σ2 : e3_H) : Prop := (∀ x : Int, σ2 44 x = σ 44 x) ∧ (∀ x : Int, σ2 45 x = σ 45 x) ∧ σ2 40 10 = σ 40 10
theorem nod_keep {σ σ2 : e3_H} {q : Int} (h : nod σ q) (e : ∀ a : Int, 46 ≤ a → a ≤ 50 → σ2 a q = σ a q) (e10 : σ2 40 10 = σ 40 10) : nod σ2 q := by
  unfold nod
  rw [e 46 (by decide) (by decide), e 47 (by decide) (by decide), e 48 (by decide) (by decide), e 49 (by decide) (by decide), e 50 (by decide) (by decide), e10]
  exact h
theorem chs_keep {σ σ2 : e3_H} {p : Int} {L : List Int} (h : chs σ p L) (e : ∀ a : Int, 46 ≤ a → a ≤ 48 → σ2 a p = σ a p) (ec : ∀ c, c ∈ L → σ2 47 c = σ 47 c) (e45 : ∀ x : Int, σ2 45 x = σ 45 x) : chs σ2 p L := by
  unfold chs
  rw [e 46 (by decide) (by decide), e 47 (by decide) (by decide), e 48 (by decide) (by decide)]
  refine ⟨fun z c hc => by rw [ec c hc]; exact h.1 z c hc, fun z i c hc => ?_⟩
  rw [ec c (List.mem_of_getElem? hc), e45]
  exact h.2 z i c hc
/-- a tree of patterns, no deeper than k, below hi -/
def wt (σ : e3_H) : Nat → Int → Int → Prop
  | 0, _, _ => False
  | k + 1, hi, q => ∃ L, ach σ (σ 51 q) L ∧ (∀ c, c ∈ L → q < c ∧ c < hi ∧ wt σ k hi c) ∧ σ 55 q = wfL σ (σ 46 q) L ∧ (L ≠ [] → σ 46 q = 5 ∨ σ 46 q = 6) ∧ (σ 46 q = 6 → L ≠ []) ∧ (σ 46 q ≠ 6 → L.length ≤ 4) ∧ ty5 σ q L
theorem ach_keep {σ σ2 : e3_H} : ∀ (L : List Int) (x : Int), ach σ x L → (∀ c, c ∈ L → σ2 52 c = σ 52 c) → ach σ2 x L := by
  intro L
  induction L with
  | nil => intro x h _; exact h
  | cons c l ih => intro x h he; exact ⟨h.1, by rw [he c (List.mem_cons_self ..)]; exact ih _ h.2 (fun y hy => he y (List.mem_cons_of_mem _ hy))⟩
theorem ach_snoc {σ σ2 : e3_H} {c q : Int} : ∀ (L : List Int) (x : Int), ach σ x (L ++ [c]) → (∀ y, y ∈ L → σ2 52 y = σ 52 y) → σ2 52 c = q → σ2 52 q = -4 → ach σ2 x (L ++ [c] ++ [q]) := by
  intro L
  induction L with
  | nil => intro x h _ hc hq; exact ⟨h.1, hc, hq⟩
  | cons d l ih => intro x h he hc hq; exact ⟨h.1, by rw [he d (List.mem_cons_self ..)]; exact ih _ h.2 (fun y hy => he y (List.mem_cons_of_mem _ hy)) hc hq⟩
theorem wf_keep {σ σ2 : e3_H} {k5 : Int} : ∀ (L : List Int) (w : Int), (∀ c, c ∈ L → σ2 55 c = σ 55 c) → wf σ2 k5 w L = wf σ k5 w L := by
  intro L
  induction L with
  | nil => intro w _; rfl
  | cons c l ih =>
    intro w he
    show wf σ2 k5 (a_mul w (σ2 55 c) k5) l = wf σ k5 (a_mul w (σ 55 c) k5) l
    rw [he c (List.mem_cons_self ..), ih _ (fun y hy => he y (List.mem_cons_of_mem _ hy))]
theorem wfL_keep {σ σ2 : e3_H} {k5 : Int} : ∀ (L : List Int), (∀ c, c ∈ L → σ2 55 c = σ 55 c) → wfL σ2 k5 L = wfL σ k5 L := by
  intro L he
  cases L with
  | nil => rfl
  | cons c l =>
    show wf σ2 k5 (σ2 55 c) l = wf σ k5 (σ 55 c) l
    rw [he c (List.mem_cons_self ..), wf_keep l _ (fun y hy => he y (List.mem_cons_of_mem _ hy))]
theorem wf_snoc {σ : e3_H} {k5 q : Int} : ∀ (L : List Int) (w : Int), wf σ k5 w (L ++ [q]) = a_mul (wf σ k5 w L) (σ 55 q) k5 := by
  intro L
  induction L with
  | nil => intro w; rfl
  | cons c l ih => intro w; exact ih _
theorem wfL_snoc {σ : e3_H} {k5 c q : Int} (L : List Int) : wfL σ k5 (L ++ [c] ++ [q]) = a_mul (wfL σ k5 (L ++ [c])) (σ 55 q) k5 := by
  cases L with
  | nil => rfl
  | cons d l => exact wf_snoc (l ++ [c]) (σ 55 d)
theorem wt_mono {σ : e3_H} : ∀ (k : Nat) (hi hi2 q : Int), wt σ k hi q → hi ≤ hi2 → wt σ k hi2 q := by
  intro k
  induction k with
  | zero => intro hi hi2 q h; exact h.elim
  | succ k ih =>
    intro hi hi2 q h hl
    obtain ⟨L, h1, h2, h3⟩ := h
    exact ⟨L, h1, fun c hc => ⟨(h2 c hc).1, by have := (h2 c hc).2.1; omega, ih _ _ _ (h2 c hc).2.2 hl⟩, h3⟩
theorem wt_keep {σ σ2 : e3_H} : ∀ (k : Nat) (hi q : Int), wt σ k hi q → q < hi → (∀ a x : Int, (46 ≤ a ∧ a ≤ 51) ∨ a = 55 → q ≤ x → x < hi → σ2 a x = σ a x) → (∀ x : Int, q < x → x < hi → σ2 52 x = σ 52 x) → e_k σ σ2 → wt σ2 k hi q := by
  intro k
  induction k with
  | zero => intro hi q h; exact h.elim
  | succ k ih =>
    intro hi q h hq e1 e2 ek
    obtain ⟨L, h1, h2, h3, h4, h5, h6, h7, h8, h9⟩ := h
    refine ⟨L, ?_, fun c hc => ?_, ?_, ?_, ?_, ?_, ?_, ?_, ?_⟩
    · rw [e1 51 q (by omega) (by omega) hq]
      exact ach_keep L _ h1 (fun c hc => e2 c (h2 c hc).1 (h2 c hc).2.1)
    · obtain ⟨c1, c2, c3⟩ := h2 c hc
      exact ⟨c1, c2, ih hi c c3 c2 (fun a x ha hx hx2 => e1 a x ha (by omega) hx2) (fun x hx hx2 => e2 x (by omega) hx2) ek⟩
    · rw [e1 55 q (by omega) (by omega) hq, e1 46 q (by omega) (by omega) hq, wfL_keep L (fun c hc => e1 55 c (by omega) (by have := (h2 c hc).1; omega) (h2 c hc).2.1)]
      exact h3
    · rw [e1 46 q (by omega) (by omega) hq]
      exact h4
    · rw [e1 46 q (by omega) (by omega) hq]
      exact h5
    · rw [e1 46 q (by omega) (by omega) hq]
      exact h6
    · exact nod_keep h7 (fun a a1 a2 => e1 a q (by omega) (by omega) hq) ek.2.2
    · exact chs_keep h8 (fun a a1 a2 => e1 a q (by omega) (by omega) hq) (fun c hc => e1 47 c (by omega) (by have := (h2 c hc).1; omega) (h2 c hc).2.1) ek.2.1
    · rw [e1 46 q (by omega) (by omega) hq, e1 48 q (by omega) (by omega) hq, ek.1]
      exact h9
/-- an open pattern p with the children L so far -/
def wJ (σ : e3_H) (k : Nat) (p last : Int) (c : Nat) : Prop := (last = -4 ∧ σ 51 p = -4 ∧ σ 55 p = 1 ∧ c = 0) ∨ ∃ L0 : List Int, L0.length + 1 = c ∧ (∀ c, c ∈ L0 → p < c ∧ c < last ∧ wt σ k last c) ∧ (p < last ∧ last < σ 40 16 ∧ wt σ k (σ 40 16) last) ∧ ach σ (σ 51 p) (L0 ++ [last]) ∧ σ 55 p = wfL σ (σ 46 p) (L0 ++ [last]) ∧ chs σ p (L0 ++ [last])
/-- a child more -/
theorem wJ_into {σ σ3 : e3_H} {k : Nat} {p last q : Int} {cn : Nat} (h : wJ σ k p last cn) (h0 : 0 ≤ p) (hp : p < σ 40 16) (hq : q = σ 40 16) (hq2 : q < σ3 40 16) (hfr : ∀ a x : Int, 46 ≤ a → a ≤ 55 → x < σ 40 16 → σ3 a x = σ a x) (hw : wt σ3 k (σ3 40 16) q) (h52 : σ3 52 q = -4) (hk3 : e_k σ σ3) (hsq : (σ 46 p = 6 → σ3 47 q = σ 47 p) ∧ (σ 46 p = 5 → σ3 47 q = σ 45 (4 * σ 48 p + cn))) : wJ (a_into σ3 p last q) k p q (cn + 1) := by
  have e16 : a_into σ3 p last q 40 16 = σ3 40 16 := a_into_at 40 16 (by omega) (by omega) (by omega)
  have e46 : ∀ x : Int, a_into σ3 p last q 46 x = σ3 46 x := fun x => a_into_at 46 x (by omega) (by omega) (by omega)
  have eo : ∀ a x : Int, a ≠ 51 → a ≠ 52 → a ≠ 55 → a_into σ3 p last q a x = σ3 a x := fun a x h1 h2 h3 => a_into_at a x h1 h2 h3
  have ek : e_k σ3 (a_into σ3 p last q) := ⟨fun x => eo 44 x (by decide) (by decide) (by decide), fun x => eo 45 x (by decide) (by decide) (by decide), eo 40 10 (by decide) (by decide) (by decide)⟩
  have ek2 : e_k σ (a_into σ3 p last q) := ⟨fun x => (ek.1 x).trans (hk3.1 x), fun x => (ek.2.1 x).trans (hk3.2.1 x), ek.2.2.trans hk3.2.2⟩
  have ep : ∀ a : Int, 46 ≤ a → a ≤ 48 → a_into σ3 p last q a p = σ a p := fun a h1 h2 => (eo a p (by omega) (by omega) (by omega)).trans (hfr a p (by omega) (by omega) hp)
  refine Or.inr ?_
  rcases h with ⟨l1, l2, l3, l9⟩ | ⟨L0, l9, l1, ⟨l2, l3, l4⟩, l5, l6, l7⟩
  · have u : a_into σ3 p last q = e3_up (e3_up σ3 51 p q) 55 p (σ3 55 q) := by unfold a_into; rw [if_pos l1]
    refine ⟨[], by rw [l9]; rfl, fun c hc => absurd hc (List.not_mem_nil), ⟨by omega, by rw [e16]; exact hq2, ?_⟩, ?_, ?_, ?_⟩
    · rw [e16]
      refine wt_keep k _ q hw hq2 (fun a x ha hx _ => ?_) (fun x hx _ => ?_) ek
      · rw [u, e3_up_ne (fun z => by have := z.2; omega), e3_up_ne (fun z => by have := z.2; omega)]
      · rw [u, e3_up_ne (fun z => by have := z.2; omega), e3_up_ne (fun z => by have := z.2; omega)]
    · show a_into σ3 p last q 51 p = q ∧ a_into σ3 p last q 52 q = -4
      rw [u, e3_up_ne (ne_1 (by decide)), e3_up_self, e3_up_ne (ne_1 (by decide)), e3_up_ne (ne_1 (by decide))]
      exact ⟨rfl, h52⟩
    · show a_into σ3 p last q 55 p = a_into σ3 p last q 55 q
      rw [u, e3_up_self, e3_up_ne (fun z => by have := z.2; omega), e3_up_ne (fun z => by have := z.2; omega)]
    · have e47 : a_into σ3 p last q 47 q = σ3 47 q := eo 47 q (by decide) (by decide) (by decide)
      unfold chs
      rw [ep 46 (by decide) (by decide), ep 47 (by decide) (by decide), ep 48 (by decide) (by decide)]
      refine ⟨fun z c hc => ?_, fun z i c hc => ?_⟩
      · have hc : c ∈ [q] := hc
        rw [List.mem_singleton.mp hc, e47]
        exact hsq.1 z
      · have hc : ([q] : List Int)[i]? = some c := hc
        have hi : i = 0 := by have := (List.getElem?_eq_some_iff.mp hc).1; exact Nat.lt_one_iff.mp this
        subst hi
        have hc : some q = some c := hc
        cases hc
        rw [e47, hsq.2 z, ek2.2.1, l9]
  · have u : a_into σ3 p last q = e3_up (e3_up σ3 52 last q) 55 p (a_mul (σ3 55 p) (σ3 55 q) (σ3 46 p)) := by
      unfold a_into a_mul
      rw [if_neg (by omega)]
    have k1 : ∀ a x : Int, a ≠ 52 → x ≠ p → a_into σ3 p last q a x = σ3 a x := fun a x ha hx => by
      rw [u, e3_up_ne (fun z => hx z.2), e3_up_ne (ne_1 ha)]
    have k2 : ∀ x : Int, x ≠ last → a_into σ3 p last q 52 x = σ3 52 x := fun x hx => by
      rw [u, e3_up_ne (ne_1 (by decide)), e3_up_ne (fun z => hx z.2)]
    refine ⟨L0 ++ [last], by rw [List.length_append]; exact congrArg (· + 1) l9, fun c hc => ?_, ⟨by omega, by rw [e16]; exact hq2, ?_⟩, ?_, ?_, ?_⟩
    · have hc' : (p < c ∧ c < q ∧ c ≤ last) ∧ ∃ hi, (hi = last ∧ c < last ∨ hi = q ∧ c = last) ∧ wt σ k hi c := by
        rcases List.mem_append.mp hc with hm | hm
        · obtain ⟨m1, m2, m3⟩ := l1 c hm
          exact ⟨⟨m1, by omega, by omega⟩, last, Or.inl ⟨rfl, m2⟩, m3⟩
        · have hm := List.mem_singleton.mp hm
          rw [hm]
          exact ⟨⟨l2, by omega, by omega⟩, q, Or.inr ⟨rfl, rfl⟩, by rw [hq]; exact l4⟩
      obtain ⟨⟨d1, d2, d3⟩, hi, d4, d5⟩ := hc'
      refine ⟨d1, d2, wt_mono k hi q c (wt_keep k hi c d5 (by omega) (fun a x ha hx hx2 => ?_) (fun x hx hx2 => ?_) ek2) (by omega)⟩
      · rw [k1 a x (by omega) (by omega)]
        exact hfr a x (by omega) (by omega) (by omega)
      · rw [k2 x (by omega)]
        exact hfr 52 x (by decide) (by decide) (by omega)
    · rw [e16]
      refine wt_keep k _ q hw hq2 (fun a x ha hx _ => k1 a x (by omega) (by omega)) (fun x hx _ => k2 x (by omega)) ek
    · have e51 : a_into σ3 p last q 51 p = σ 51 p := by
        rw [u, e3_up_ne (ne_1 (by decide)), e3_up_ne (ne_1 (by decide))]
        exact hfr 51 p (by decide) (by decide) hp
      rw [e51]
      refine ach_snoc L0 _ l5 (fun y hy => ?_) ?_ ?_
      · have := (l1 y hy).2.1
        rw [k2 y (by omega)]
        exact hfr 52 y (by decide) (by decide) (by omega)
      · rw [u, e3_up_ne (ne_1 (by decide)), e3_up_self]
      · rw [k2 q (by omega)]
        exact h52
    · have e55 : a_into σ3 p last q 55 p = a_mul (σ3 55 p) (σ3 55 q) (σ3 46 p) := by rw [u, e3_up_self]
      rw [e55, wfL_snoc, e46, k1 55 q (by decide) (by omega), wfL_keep (σ := σ) (L0 ++ [last]) (fun c hc => by
        have hcp : p < c ∧ c ≤ last := by
          rcases List.mem_append.mp hc with hm | hm
          · have := l1 c hm; omega
          · have hm := List.mem_singleton.mp hm; omega
        rw [k1 55 c (by decide) (by omega)]
        exact hfr 55 c (by decide) (by decide) (by omega)), hfr 55 p (by decide) (by decide) hp, hfr 46 p (by decide) (by decide) hp, l6]
    · have e47 : a_into σ3 p last q 47 q = σ3 47 q := eo 47 q (by decide) (by decide) (by decide)
      have hcl : ∀ c, c ∈ L0 ++ [last] → a_into σ3 p last q 47 c = σ 47 c := fun c hc => by
        have hcp : c ≤ last := by
          rcases List.mem_append.mp hc with hm | hm
          · have := l1 c hm; omega
          · have hm := List.mem_singleton.mp hm; omega
        rw [eo 47 c (by decide) (by decide) (by decide)]
        exact hfr 47 c (by decide) (by decide) (by omega)
      have l8 := chs_keep l7 ep hcl ek2.2.1
      refine ⟨fun z c hc => ?_, fun z i c hc => ?_⟩
      · rcases List.mem_append.mp hc with hm | hm
        · exact l8.1 z c hm
        · rw [List.mem_singleton.mp hm, e47, ep 47 (by decide) (by decide)]
          exact hsq.1 (by rw [← ep 46 (by decide) (by decide)]; exact z)
      · have hlen : (L0 ++ [last]).length = cn := by rw [List.length_append]; exact l9
        by_cases hi : i < (L0 ++ [last]).length
        · rw [List.getElem?_append_left hi] at hc
          exact l8.2 z i c hc
        · rw [List.getElem?_append_right (by omega)] at hc
          have h0 := (List.getElem?_eq_some_iff.mp hc).1
          have h0 : i - (L0 ++ [last]).length < 1 := h0
          have hi2 : i = cn := by omega
          rw [hi2, hlen, Nat.sub_self] at hc
          have hc : some q = some c := hc
          cases hc
          rw [e47, ep 48 (by decide) (by decide), ek2.2.1, hi2]
          exact hsq.2 (by rw [← ep 46 (by decide) (by decide)]; exact z)
/-- an open pattern is closed -/
theorem wJ_end {σ : e3_H} {k : Nat} {p last : Int} {cn : Nat} (h : wJ σ k p last cn) (hl : last ≠ -4) (h46 : σ 46 p = 5 ∧ cn ≤ 4 ∧ (cn : Int) = σ 44 (σ 48 p) ∨ σ 46 p = 6) (hnd : nod σ p) : wt σ (k + 1) (σ 40 16) p := by
  rcases h with ⟨l1, _⟩ | ⟨L0, l9, l1, ⟨l2, l3, l4⟩, l5, l6, l7⟩
  · exact absurd l1 hl
  · refine ⟨L0 ++ [last], l5, fun c hc => ?_, l6, fun _ => by omega, fun _ => by simp, fun h6 => by rw [List.length_append]; show L0.length + 1 ≤ 4; omega, hnd, l7, fun h5 _ => by rw [List.length_append]; show ((L0.length + 1 : Nat) : Int) = _; omega⟩
    rcases List.mem_append.mp hc with hm | hm
    · obtain ⟨m1, m2, m3⟩ := l1 c hm
      exact ⟨m1, by omega, wt_mono k last _ c m3 (by omega)⟩
    · have hm := List.mem_singleton.mp hm
      rw [hm]
      exact ⟨l2, l3, l4⟩
