/-- rows of the class, and the numbers of their rules -/
theorem FY_row {σ g K : e3_H} {G : e3_G} {f : Nat} {Vs : Int → Int → Int → List (Int × Int)} {mr : Nat} (h : FY σ g Vs f K G) (hm : σ 70 f = (mr : Int)) : ∀ (i : Nat) (w : Int × List (Int × Int)), (RR σ f (Vs f) false mr)[i]? = some w → (i : Int) < K (K 15 f) 5 ∧ w.1 = 16 * (f : Int) + rnm f i K ∧ 0 ≤ rnm f i K ∧ rnm f i K < 16 := by
  obtain ⟨cx, pn, cnt, mr', A, B, h1, h2, h3, h4, h5, h6, h7⟩ := h
  have em : mr' = mr := by omega
  subst em
  obtain ⟨b1, b2, b3, b4, ⟨b5, b6, b7, b8⟩, b9, b10⟩ := h1
  have h74 : ∀ k : Nat, k < mr' → 0 ≤ σ 74 (16 * (f : Int) + k) := fun k hk => (b9 k hk).2.1
  have hlen := rls_len2 (Vs := Vs f) mr' h74
  have hRl : ((RR σ f (Vs f) false mr').length : Int) = rsum σ f mr' := by unfold RR; rw [List.length_map]; exact hlen
  intro i w hw
  have hil := (List.getElem?_eq_some_iff.mp hw).1
  unfold RR at hw
  rw [List.getElem?_map] at hw
  cases he : (rls σ f (Vs f) false mr')[i]? with
  | none => rw [he] at hw; cases hw
  | some e =>
    rw [he] at hw
    have hw : some (e.1, tl σ e.2.2) = some w := hw
    cases hw
    obtain ⟨k, v, a, b, c, d⟩ := rls_at mr' i e h74 he
    obtain ⟨c1, c2, c3⟩ := h7 k v (Or.inl ⟨a, b.2⟩) b.1
    rw [← c] at c1
    obtain ⟨_, _, _, _, _, d3, _⟩ := b9 k a
    have a1 := d3.2.2.1.2.2
    have er : rnm f i K = (16 * (f : Int) + k) % 16 := by
      unfold rnm
      rw [b2.1, c1, c, c3.1]
      exact a1
    refine ⟨by rw [h6]; omega, ?_, by omega, by omega⟩
    rw [er, d]
    show 16 * (f : Int) + k = _
    omega
