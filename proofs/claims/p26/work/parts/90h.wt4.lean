/-- the columns of a rule so far -/
def wC (σ : e3_H) (r lo : Int) (c : Nat) (last : Int) : Prop := (c = 0 ∧ σ 74 r = 1) ∨ ∃ L0 : List Int, L0.length + 1 = c ∧ (∀ x, x ∈ L0 → lo ≤ x ∧ x < last ∧ wt σ 6 last x) ∧ (lo ≤ last ∧ last < σ 40 16 ∧ wt σ 6 (σ 40 16) last) ∧ ach σ (σ 72 r) (L0 ++ [last]) ∧ σ 74 r = wf σ 5 1 (L0 ++ [last]) ∧ ∀ (i : Nat) (x : Int), (L0 ++ [last])[i]? = some x → σ 47 x = σ 69 (3 * (r / 16) + i)
/-- the patterns of a rule: trees in a chain; its ways -/
def wru (σ : e3_H) (r lo hi : Int) (cols : Nat) : Prop := ∃ L : List Int, L.length = cols ∧ ach σ (σ 72 r) L ∧ (∀ x, x ∈ L → lo ≤ x ∧ x < hi ∧ wt σ 6 hi x) ∧ σ 74 r = wf σ 5 1 L ∧ ∀ (i : Nat) (x : Int), L[i]? = some x → σ 47 x = σ 69 (3 * (r / 16) + i)
theorem wru_keep {σ σ2 : e3_H} {r lo hi hi2 : Int} {c : Nat} (h : wru σ r lo hi c) (e : ∀ a x : Int, (46 ≤ a ∧ a ≤ 52) ∨ a = 55 → lo ≤ x → x < hi → σ2 a x = σ a x) (ek : e_k σ σ2) (e69 : ∀ i : Nat, i < c → σ2 69 (3 * (r / 16) + i) = σ 69 (3 * (r / 16) + i)) (e72 : σ2 72 r = σ 72 r) (e74 : σ2 74 r = σ 74 r) (hh : hi ≤ hi2) : wru σ2 r lo hi2 c := by
  obtain ⟨L, h1, h2, h3, h4, h5⟩ := h
  refine ⟨L, h1, ?_, fun x hx => ?_, ?_, fun i x hx => ?_⟩
  · rw [e72]
    exact ach_keep L _ h2 (fun x hx => e 52 x (by omega) (h3 x hx).1 (h3 x hx).2.1)
  · obtain ⟨c1, c2, c3⟩ := h3 x hx
    exact ⟨c1, by omega, wt_mono 6 hi hi2 x (wt_keep 6 hi x c3 c2 (fun a y ha hy hy2 => e a y (by omega) (by omega) hy2) (fun y hy hy2 => e 52 y (by omega) (by omega) hy2) ek) hh⟩
  · rw [e74, wf_keep (σ := σ) L 1 (fun x hx => e 55 x (by omega) (h3 x hx).1 (h3 x hx).2.1)]
    exact h4
  · have hm := List.mem_of_getElem? hx
    have hl := (List.getElem?_eq_some_iff.mp hx).1
    rw [e 47 x (by omega) (h3 x hm).1 (h3 x hm).2.1, e69 i (by omega)]
    exact h5 i x hx
theorem wC_col {σ σ3 : e3_H} {r lo last p : Int} {c : Nat} (h : wC σ r lo c last) (h0 : 0 ≤ lo ∧ lo ≤ σ 40 16) (hp : p = σ 40 16) (hp2 : p < σ3 40 16) (h27 : σ3 40 27 = r) (e72 : σ3 72 = σ 72) (e74 : σ3 74 = σ 74) (hfr : ∀ a x : Int, 46 ≤ a → a ≤ 55 → x < σ 40 16 → σ3 a x = σ a x) (hw : wt σ3 6 (σ3 40 16) p) (h52 : σ3 52 p = -4) (hk3 : e_k σ σ3) (e69 : σ3 69 = σ 69) (h47 : σ3 47 p = σ 69 (3 * (r / 16) + c)) : wC (a_col1 σ3 c last p) r lo (c + 1) p := by
  have hm : ∀ x y : Int, (if 1000 < x * y then 1000 else x * y) = a_mul x y 5 := fun x y => by unfold a_mul; rw [if_pos rfl]
  refine Or.inr ?_
  rcases h with ⟨l1, l2⟩ | ⟨L0, ll, l1, ⟨l2, l3, l4⟩, l5, l6, l7⟩
  · have u : a_col1 σ3 c last p = e3_up (e3_up σ3 72 r p) 74 r (a_mul (σ3 74 r) (σ3 55 p) 5) := by
      unfold a_col1 a_mulr
      rw [if_pos l1, hm, h27, e3_up_ne (ne_1 (by decide)), h27, e3_up_ne (ne_1 (by decide)), e3_up_ne (ne_1 (by decide))]
    have k1 : ∀ a x : Int, a ≠ 72 → a ≠ 74 → a_col1 σ3 c last p a x = σ3 a x := fun a x h1 h2 => by rw [u, e3_up_ne (ne_1 h2), e3_up_ne (ne_1 h1)]
    refine ⟨[], by rw [l1]; rfl, fun x hx => absurd hx (List.not_mem_nil), ⟨by omega, by rw [k1 40 16 (by decide) (by decide)]; exact hp2, ?_⟩, ?_, ?_, fun i x hx => ?_⟩
    · rw [k1 40 16 (by decide) (by decide)]
      exact wt_keep 6 _ p hw hp2 (fun a x ha _ _ => k1 a x (by omega) (by omega)) (fun x _ _ => k1 52 x (by decide) (by decide)) ⟨fun x => k1 44 x (by decide) (by decide), fun x => k1 45 x (by decide) (by decide), k1 40 10 (by decide) (by decide)⟩
    · show a_col1 σ3 c last p 72 r = p ∧ a_col1 σ3 c last p 52 p = -4
      rw [k1 52 p (by decide) (by decide), u, e3_up_ne (ne_1 (by decide)), e3_up_self]
      exact ⟨rfl, h52⟩
    · show a_col1 σ3 c last p 74 r = a_mul 1 (a_col1 σ3 c last p 55 p) 5
      rw [k1 55 p (by decide) (by decide), u, e3_up_self, e74, l2]
    · have hx : ([p] : List Int)[i]? = some x := hx
      have hi : i = 0 := Nat.lt_one_iff.mp (List.getElem?_eq_some_iff.mp hx).1
      subst hi
      have hx : some p = some x := hx
      cases hx
      rw [k1 47 p (by decide) (by decide), k1 69 _ (by decide) (by decide), h47, e69, l1]
  · have u : a_col1 σ3 c last p = e3_up (e3_up σ3 52 last p) 74 r (a_mul (σ3 74 r) (σ3 55 p) 5) := by
      unfold a_col1 a_mulr
      rw [if_neg (by omega), hm, e3_up_ne (ne_1 (by decide)), h27, e3_up_ne (ne_1 (by decide)), e3_up_ne (ne_1 (by decide))]
    have k1 : ∀ a x : Int, a ≠ 52 → a ≠ 74 → a_col1 σ3 c last p a x = σ3 a x := fun a x h1 h2 => by rw [u, e3_up_ne (ne_1 h2), e3_up_ne (ne_1 h1)]
    have k2 : ∀ x : Int, x ≠ last → a_col1 σ3 c last p 52 x = σ3 52 x := fun x hx => by
      rw [u, e3_up_ne (ne_1 (by decide)), e3_up_ne (fun z => hx z.2)]
    have e16 := k1 40 16 (by decide) (by decide)
    have ek : e_k σ3 (a_col1 σ3 c last p) := ⟨fun x => k1 44 x (by decide) (by decide), fun x => k1 45 x (by decide) (by decide), k1 40 10 (by decide) (by decide)⟩
    have ek2 : e_k σ (a_col1 σ3 c last p) := ⟨fun x => (ek.1 x).trans (hk3.1 x), fun x => (ek.2.1 x).trans (hk3.2.1 x), ek.2.2.trans hk3.2.2⟩
    refine ⟨L0 ++ [last], by rw [List.length_append]; simp only [List.length_cons, List.length_nil]; omega, fun x hx => ?_, ⟨by omega, by rw [e16]; exact hp2, ?_⟩, ?_, ?_, fun i x hx => ?_⟩
    · have hx' : (lo ≤ x ∧ x < p ∧ x ≤ last) ∧ ∃ hi, (hi = last ∧ x < last ∨ hi = p ∧ x = last) ∧ wt σ 6 hi x := by
        rcases List.mem_append.mp hx with hm | hm
        · obtain ⟨m1, m2, m3⟩ := l1 x hm
          exact ⟨⟨m1, by omega, by omega⟩, last, Or.inl ⟨rfl, m2⟩, m3⟩
        · have hm := List.mem_singleton.mp hm
          rw [hm]
          exact ⟨⟨l2, by omega, by omega⟩, p, Or.inr ⟨rfl, rfl⟩, by rw [hp]; exact l4⟩
      obtain ⟨⟨d1, d2, d3⟩, hi, d4, d5⟩ := hx'
      refine ⟨d1, d2, wt_mono 6 hi p x (wt_keep 6 hi x d5 (by omega) (fun a y ha hy hy2 => ?_) (fun y hy hy2 => ?_) ek2) (by omega)⟩
      · rw [k1 a y (by omega) (by omega)]
        exact hfr a y (by omega) (by omega) (by omega)
      · rw [k2 y (by omega)]
        exact hfr 52 y (by decide) (by decide) (by omega)
    · rw [e16]
      exact wt_keep 6 _ p hw hp2 (fun a x ha _ _ => k1 a x (by omega) (by omega)) (fun x hx _ => k2 x (by omega)) ek
    · rw [k1 72 r (by decide) (by decide), e72]
      refine ach_snoc L0 _ l5 (fun y hy => ?_) ?_ ?_
      · have := (l1 y hy).2.1
        rw [k2 y (by omega)]
        exact hfr 52 y (by decide) (by decide) (by omega)
      · rw [u, e3_up_ne (ne_1 (by decide)), e3_up_self]
      · rw [k2 p (by omega)]
        exact h52
    · have e74' : a_col1 σ3 c last p 74 r = a_mul (σ3 74 r) (σ3 55 p) 5 := by rw [u, e3_up_self]
      rw [e74', wf_snoc, k1 55 p (by decide) (by decide), wf_keep (σ := σ) (L0 ++ [last]) 1 (fun x hx => by
        have hcp : x ≤ last := by
          rcases List.mem_append.mp hx with hm | hm
          · have := l1 x hm; omega
          · have hm := List.mem_singleton.mp hm; omega
        rw [k1 55 x (by decide) (by decide)]
        exact hfr 55 x (by decide) (by decide) (by omega)), e74, l6]
    · rw [k1 69 _ (by decide) (by decide), e69]
      have hlen : (L0 ++ [last]).length = c := by rw [List.length_append]; exact ll
      by_cases hi : i < (L0 ++ [last]).length
      · rw [List.getElem?_append_left hi] at hx
        have hm := List.mem_of_getElem? hx
        have hcp : x ≤ last := by
          rcases List.mem_append.mp hm with hm | hm
          · have := l1 x hm; omega
          · have hm := List.mem_singleton.mp hm; omega
        rw [k1 47 x (by decide) (by decide), hfr 47 x (by decide) (by decide) (by omega)]
        exact l7 i x hx
      · rw [List.getElem?_append_right (by omega)] at hx
        have h0 := (List.getElem?_eq_some_iff.mp hx).1
        have h0 : i - (L0 ++ [last]).length < 1 := h0
        have hi2 : i = c := by omega
        rw [hi2, hlen, Nat.sub_self] at hx
        have hx : some p = some x := hx
        cases hx
        rw [k1 47 p (by decide) (by decide), hi2]
        exact h47
section WTR
variable {n m : Nat} {t : Int → Int} {r lo : Int}
theorem wt_cols {f : Int} {mu : Bool} : ∀ (rem c : Nat) (last : Int) (i : Nat) (σ : e3_H) (j : Nat) (σ2 : e3_H), a_cols t n f mu rem c last i σ = .inr (j, σ2) → p_inv σ m i → σ 40 16 ≤ (i : Int) → σ 40 27 = r → (1 ≤ σ 74 r ∧ σ 74 r ≤ 1000) → (0 ≤ lo ∧ lo ≤ σ 40 16) → (c ≠ 0 → lo ≤ last) → r / 16 = f → (∀ k : Nat, k < c + rem → 0 ≤ σ 69 (3 * f + k)) → wC σ r lo c last → ∃ last2, wC σ2 r lo (c + rem) last2 := by
  intro rem
  induction rem with
  | zero =>
    intro c last i σ j σ2 h h1 h2 h3 h4 h5 h6 hrf hS h7
    cases h
    exact ⟨last, h7⟩
  | succ rem ih =>
    intro c last i σ j σ2 h h1 h2 h3 h4 h5 h6 hrf hS h7
    unfold a_cols at h
    split at h
    · cases h
    · split at h
      · cases h
      · rename_i j2 σ3 p hp
        have hij : i ≤ (if c = 0 then i else i + 1) := by split <;> omega
        have hin := p_inv_le h1 hij
        obtain ⟨b1, b2, b3, b4, b5, b6⟩ := a_pat_ok _ _ _ _ _ _ _ _ _ hp hin (by omega)
        obtain ⟨w1, w2, w3⟩ := wt_pat _ _ _ _ _ _ _ _ _ hp hin (by omega) (hS c (by omega)) 6 (by omega)
        have e69 : σ3 69 = σ 69 := b6.2.2.1 69 (by omega) (by omega)
        have hk3 : e_k σ σ3 := ⟨fun x => by rw [b6.2.2.1 44 (by omega) (by omega)], fun x => by rw [b6.2.2.1 45 (by omega) (by omega)], b6.2.1 10 (by omega) (by omega)⟩
        have e27 : σ3 40 27 = r := by rw [b6.2.1 27 (by omega) (by omega)]; exact h3
        have e74 : σ3 74 = σ 74 := b6.2.2.1 74 (by omega) (by omega)
        have e72 : σ3 72 = σ 72 := b6.2.2.1 72 (by omega) (by omega)
        obtain ⟨c1, c2, c3, c4, c5⟩ := a_col1_ok (p0 := lo) (c := c) (last := last) (p := p) b5 (by rw [e27, e74]; exact h4) (by have := h1.2.1.1; omega) e27 h6
        have hC := wC_col h7 h5 b2 (by omega) e27 e72 e74 (fun a x z1 z2 z3 => b6.2.2.2.1 a x z1 z2 z3) w1 w2 hk3 e69 (by rw [w3, hrf])
        have e69c : ∀ x : Int, a_col1 σ3 c last p 69 x = σ 69 x := fun x => by
          unfold a_col1 a_mulr
          split
          · rw [e3_up_ne (ne_1 (by decide)), e3_up_ne (ne_1 (by decide)), e69]
          · rw [e3_up_ne (ne_1 (by decide)), e3_up_ne (ne_1 (by decide)), e69]
        obtain ⟨last2, hl⟩ := ih (c + 1) p j2 _ j σ2 h c1 (by rw [c3]; omega) c4 c5 (by rw [c3]; omega) (fun _ => by omega) hrf (fun k hk => by rw [e69c]; exact hS k (by omega)) hC
        exact ⟨last2, by rw [show c + (rem + 1) = c + 1 + rem by omega]; exact hl⟩
theorem wC_end {σ : e3_H} {c : Nat} {last : Int} (h : wC σ r lo c last) (hc : c ≠ 0) : wru σ r lo (σ 40 16) c := by
  rcases h with ⟨l1, _⟩ | ⟨L0, ll, l1, ⟨l2, l3, l4⟩, l5, l6, l7⟩
  · exact absurd l1 hc
  · refine ⟨L0 ++ [last], by rw [List.length_append]; exact ll, l5, fun x hx => ?_, l6, l7⟩
    rcases List.mem_append.mp hx with hm | hm
    · obtain ⟨m1, m2, m3⟩ := l1 x hm
      exact ⟨m1, by omega, wt_mono 6 last _ x m3 (by omega)⟩
    · have hm := List.mem_singleton.mp hm
      rw [hm]
      exact ⟨l2, l3, l4⟩
end WTR
