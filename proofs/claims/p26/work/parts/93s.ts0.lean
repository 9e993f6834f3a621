/-- the tree that a FUNCTION begins with -/
theorem fk_tree {fu : Int} {H : e3_H} {G : e3_G} (h139 : 139 ≤ fu) (h : c_fk fu H G) : TRE (fu + 6) H G ∧ H fu 10 = fu + 6 := by
  obtain ⟨_, ⟨b1, b2⟩, ⟨c1, c2⟩, ⟨d1, d2⟩, ⟨f1, f2⟩, ⟨g1, g2⟩, ⟨i1, i2⟩, ⟨j1, j2⟩⟩ := h
  have e7 : fu + 6 + 1 = fu + 7 := by omega
  have e8 : fu + 6 + 2 = fu + 8 := by omega
  have e9 : fu + 6 + 3 = fu + 9 := by omega
  have e10 : fu + 6 + 4 = fu + 10 := by omega
  have e11 : fu + 6 + 5 = fu + 11 := by omega
  have e12 : fu + 6 + 6 = fu + 12 := by omega
  refine ⟨⟨Or.inr (by omega), b2, ?_, ?_, ?_, ?_, ?_, ?_⟩, b1⟩
  · rw [e7]; exact ⟨c1, c2⟩
  · rw [e8]; exact ⟨d1, d2⟩
  · rw [e9]; exact ⟨f1, f2⟩
  · rw [e10]; exact ⟨g1, g2⟩
  · rw [e11]; exact ⟨i1, i2⟩
  · rw [e12]; exact ⟨j1, j2⟩
section TS0
variable {nf : Nat} {σ g H H1 K K2 : e3_H} {G G2 G3 : e3_G}
/-- trees behind the reading and the laying of Rows -/
theorem TS_0 (hds : a_ds (σ 67) nf) (hFS : c_FS nf σ g H1 G2) (h18 : c_18 G2 H1 K) (hr : RF K G2 K2 G3) (hE : ∃ E, G2 = G ++ E) (hnew : ∀ f : Nat, f < nf → (G.length : Int) ≤ H1 15 f) (ht : TRE (H 16 1) H G) (hA : ∃ kl, DA (H 16 4) (H 16 1) G kl) (e16 : ∀ x : Int, K2 16 x = H 16 x) (et : ∀ x : Int, x ≠ 18 → K2 (H 16 1) x = H (H 16 1) x) : TS nf K2 G3 := by
  obtain ⟨E, hE⟩ := hE
  obtain ⟨⟨E3, hE3⟩, r2, r3⟩ := id hr
  obtain ⟨⟨z1, z2, z3⟩, z4⟩ := hFS
  obtain ⟨kl, ⟨k1, k2⟩, k3, k4, k5⟩ := hA
  have e15 : ∀ f : Nat, K2 15 f = H1 15 f := fun f => by rw [r3 15 f (by decide)]; exact h18.1 15 f (Or.inr (by decide))
  have l6 := ga_lt ht.2.2.2.2.2.2.2.2
  have lka := ga_lt k2
  have fk : ∀ f : Nat, f < nf → TRE (H1 15 f + 6) K2 G3 ∧ K2 (H1 15 f) 10 = H1 15 f + 6 := fun f hf => by
    obtain ⟨⟨y1, y2⟩, y3⟩ := z3 f hf
    obtain ⟨cx, _, _, _, _, _, hfk⟩ := z4 f hf
    obtain ⟨t1, t2⟩ := fk_tree y1 hfk
    have ef : K2 (H1 15 f) 10 = H1 (H1 15 f) 10 := by
      rw [r2 _ 10 _ _ y2 (by decide) (Or.inr (by decide))]
      exact h18.1 _ _ (Or.inl (by decide))
    have et : ∀ x : Int, K2 (H1 15 f + 6) x = K (H1 15 f + 6) x := fun x => r2 _ x _ _ t1.2.1 (by decide) (Or.inl (by decide))
    have et2 : ∀ x : Int, x ≠ 18 → K (H1 15 f + 6) x = H1 (H1 15 f + 6) x := fun x hx => h18.1 _ _ (Or.inl hx)
    refine ⟨?_, by rw [ef]; exact t2⟩
    rw [hE3]
    obtain ⟨q, q0, ⟨p1, q1⟩, ⟨p2, q2⟩, ⟨p3, q3⟩, ⟨p4, q4⟩, ⟨p5, q5⟩, ⟨p6, q6⟩⟩ := t1
    exact ⟨q, ga_app q0, ⟨by rw [et, et2 _ (by decide)]; exact p1, ga_app q1⟩, ⟨by rw [et, et2 _ (by decide)]; exact p2, ga_app q2⟩, ⟨by rw [et, et2 _ (by decide)]; exact p3, ga_app q3⟩, ⟨by rw [et, et2 _ (by decide)]; exact p4, ga_app q4⟩, ⟨by rw [et, et2 _ (by decide)]; exact p5, ga_app q5⟩, ⟨by rw [et, et2 _ (by decide)]; exact p6, ga_app q6⟩⟩
  have hne : ∀ f f' : Nat, f < nf → f' < nf → f ≠ f' → H1 15 f ≠ H1 15 f' := fun f f' hf hf' hd z => by
    have a1 := (z3 f hf).2
    have a2 := (z3 f' hf').2
    rw [z, a2] at a1
    exact hd (hds f f' hf hf' a1.symm)
  have e10 : ∀ f : Nat, f < nf → K2 (K2 15 f) 10 = H1 15 f + 6 := fun f hf => by rw [e15]; exact (fk f hf).2
  refine ⟨?_, fun f hf => ?_, fun f f' hf hf' hd => ?_, ⟨kl, ?_⟩, fun f hf => ?_⟩
  · rw [e16, hE3, hE, List.append_assoc]
    obtain ⟨q, q0, ⟨p1, q1⟩, ⟨p2, q2⟩, ⟨p3, q3⟩, ⟨p4, q4⟩, ⟨p5, q5⟩, ⟨p6, q6⟩⟩ := ht
    exact ⟨q, ga_app q0, ⟨by rw [et _ (by decide)]; exact p1, ga_app q1⟩, ⟨by rw [et _ (by decide)]; exact p2, ga_app q2⟩, ⟨by rw [et _ (by decide)]; exact p3, ga_app q3⟩, ⟨by rw [et _ (by decide)]; exact p4, ga_app q4⟩, ⟨by rw [et _ (by decide)]; exact p5, ga_app q5⟩, ⟨by rw [et _ (by decide)]; exact p6, ga_app q6⟩⟩
  · rw [e10 f hf, e16]
    have := hnew f hf
    exact ⟨(fk f hf).1, by omega⟩
  · rw [e10 f hf, e10 f' hf', e15, e15]
    have := hne f f' hf hf' hd
    exact ⟨by omega, this⟩
  · rw [e16, e16, hE3, hE, List.append_assoc]
    exact ⟨⟨k1, ga_app k2⟩, k3, k4, k5⟩
  · rw [e10 f hf, e16]
    have := hnew f hf
    omega
end TS0
