/-- under one that is under a third -/
theorem of_tr {f : Int → Int} {o k : Int} {m : Nat} (hm : m ≤ 24) (hu : a_up f m) (hk : 0 ≤ k ∧ k < (m : Int)) (h2 : a_of f o 24 k = true) : ∀ (n : Nat) (j : Int), 0 ≤ j → j < (m : Int) → a_of f k n j = true → a_of f o 24 j = true := by
  intro n
  induction n with
  | zero => intro j _ _ h; cases h
  | succ n ih =>
    intro j j0 j1 h
    have h : (if j < 0 then false else if j = k then true else a_of f k n (f j)) = true := h
    rw [if_neg (by omega)] at h
    by_cases z : j = k
    · rw [z]; exact h2
    · rw [if_neg z] at h
      have ej : ((j.toNat : Nat) : Int) = j := by omega
      have hj := hu j.toNat (by omega)
      rw [ej] at hj
      rcases hj with y | ⟨y1, y2⟩
      · rw [a_of_neg (by omega)] at h; cases h
      · have q := ih (f j) y1 (by omega) h
        have ej2 : (((f j).toNat : Nat) : Int) = f j := by omega
        have f1 := a_of_fu (o := o) hu j.toNat (by omega) 24 (by omega)
        have f2 := a_of_fu (o := o) hu (f j).toNat (by omega) 24 (by omega)
        have f3 := a_of_fu (o := o) hu (f j).toNat (by omega) j.toNat (by omega)
        rw [ej] at f1
        rw [ej2] at f2 f3
        rw [f1]
        show (if j < 0 then false else if j = o then true else a_of f o j.toNat (f j)) = true
        rw [if_neg (by omega)]
        by_cases y : j = o
        · rw [if_pos y]
        · rw [if_neg y, f3, ← f2]; exact q
/-- a VALUE of a SORT is of the SORTS that suit -/
theorem fit_oks {σ H : e3_H} {m : Nat} (hT : TV σ m H) {v s w : Int} (h : oks H v s) (hf : a_fit σ s w = true) (hs : 0 ≤ s ∧ s < 3 + (m : Int)) : oks H v w := by
  refine ⟨h.1, ?_⟩
  unfold a_fit at hf
  rcases Bool.or_eq_true _ _ ▸ hf with z | z
  · rw [← of_decide_eq_true z]; exact h.2
  · have z := Bool.and_eq_true _ _ ▸ z
    have z1 := Bool.and_eq_true _ _ ▸ z.1
    have s3 := of_decide_eq_true z1.1
    have w3 := of_decide_eq_true z1.2
    have h2 := h.2
    obtain ⟨hV, hk, hKP, e43, e45, e12, h8⟩ := id hT
    unfold sOf at h2 ⊢
    rw [if_neg (by omega)] at h2 ⊢
    rcases Bool.or_eq_true _ _ ▸ h2 with y | y
    · rw [y, Bool.true_or]
    · have y := Bool.and_eq_true _ _ ▸ y
      have y1 := of_decide_eq_true y.1
      have R := hV.2 v h.1.1 h.1.2
      obtain ⟨b1, b2, b3, b4, b5⟩ := R.2.2.2.2.1 y1
      have y2 := y.2
      rw [e43] at y2 ⊢
      have := of_tr (o := w - 3) hk.2.1 hk.2.2.2.1 (k := s - 3) (by omega) z.2 24 _ b1.1 (by omega) y2
      rw [this, decide_eq_true y1, Bool.true_and, Bool.or_true]
/-- what a rule answers, in the class as it is now -/
def c_an2 (σ : e3_H) (r : Int) (H : e3_H) (a : Int) : Prop := H a 11 = σ 79 r ∧ ((σ 79 r = 0 ∧ H a 12 = σ 80 r) ∨ (σ 79 r = 1 ∧ H a 12 = σ 80 r ∧ (0 ≤ σ 80 r ∧ σ 80 r < σ 56 r) ∧ σ 58 (8 * r + σ 80 r) = 0) ∨ (σ 79 r = 2 ∧ H a 18 = σ 80 r ∧ H a 15 = σ 83 r ∧ 0 ≤ σ 83 r ∧ ∀ i : Nat, i < 3 → (i : Int) < σ 83 r → H (a + 5) i = σ 84 (3 * r + i)))
section CRU
variable {σ g H : e3_H} {G : e3_G} {nf : Nat} {f : Nat}
/-- a rule as it was read, in the class as it is now -/
theorem CT_ru (hC : CT σ g nf H G) (hf : f < nf) (k : Nat) (hk : (k : Int) < σ 70 f) : c_gd σ (16 * (f : Int) + k) H (H (H (H 15 f) 4) k) ∧ c_an2 σ (16 * (f : Int) + k) H (H (H (H 15 f) 4) k) ∧ H (H (H (H 15 f) 4) k) 0 = (k : Int) ∧ H (H (H (H 15 f) 4) k) 4 = σ 56 (16 * (f : Int) + k) ∧ c_sk (H (H (H 15 f) 4) k) H G := by
  obtain ⟨σ1, σ2, H1, K1, G1, h1, h2, h3, ⟨h4, h4j, h4n⟩, h5, ⟨E, h6⟩, h7, h8⟩ := hC
  obtain ⟨⟨z1, z2, z3⟩, z4⟩ := h1
  obtain ⟨cx, p1, p2, ⟨p3, p4, p5, p6⟩, p7, p8, p9⟩ := z4 f hf
  have e : ∀ a x : Int, (46 ≤ a ∧ a ≤ 58) ∨ (67 ≤ a ∧ a ≤ 85) → a ≠ 71 → a ≠ 80 → σ a x = σ1 a x := fun a x ha hb hc => (h5 a x ha hb).trans (h4 a x hc)
  have e70 : σ 70 f = σ1 70 f := e 70 _ (by decide) (by decide) (by decide)
  obtain ⟨r1, lo, hi, r2, ⟨⟨⟨s1, s2, s3, s4, s5, s6, s7, s8⟩, ⟨t0, _⟩, _, ⟨n1, n2, _⟩, _, hgd, han⟩, _⟩, _⟩ := p8 k (by omega)
  have hce := h3 f k (Or.inl hf) hf (by rw [h4 70 _ (by decide)]; omega)
  have hfu := (z3 f hf).1
  have e15 : H 15 f = H1 15 f := (h8 f).trans (h2.1 15 f (Or.inr (by decide)))
  have ef : H (H1 15 f) 4 = H1 (H1 15 f) 4 := (h7 _ 4 _ _ hfu.2 hfu.1 (okt_d (by decide) (by decide) (by decide) (Or.inr (by decide))) (by decide) (Or.inr (by decide))).trans (h2.1 _ 4 (Or.inl (by decide)))
  have er : H (H1 (H1 15 f) 4) k = H1 (H1 (H1 15 f) 4) k := (h7 _ k _ _ p6 p5 (okt_d (by decide) (by decide) (by decide) (Or.inl (by decide))) (by decide) (Or.inl (by decide))).trans (h2.2 _ k _ _ p6 (by decide))
  rw [e15, ef, er]
  generalize H1 (H1 (H1 15 f) 4) k = a at *
  generalize hr : 16 * (f : Int) + (k : Int) = r at *
  have ea : ∀ x : Int, x ≠ 18 → H a x = H1 a x := fun x hx => (h7 a x _ _ s2 s1 (okt_d (by decide) (by decide) (by decide) (Or.inl (by decide))) (by decide) (Or.inl (by decide))).trans (h2.1 a x (Or.inl hx))
  have ea18 : H a 18 = K1 a 18 := h7 a 18 _ _ s2 s1 (okt_d (by decide) (by decide) (by decide) (Or.inl (by decide))) (by decide) (Or.inl (by decide))
  have ok : ∀ (n : Nat) (x : Int), n < 120 → okt 0 n x := fun n x hn => ⟨by decide, by decide, fun z => by omega, fun z => absurd z.1 (by decide), Or.inl (by decide)⟩
  have e2 : ∀ x : Int, H (a + 2) x = H1 (a + 2) x := fun x => (h7 _ x _ _ s4.2 (by omega) (ok 2 x (by decide)) (by decide) (Or.inl (by decide))).trans (h2.2 _ x _ _ s4.2 (by decide))
  have e3 : ∀ x : Int, H (a + 3) x = H1 (a + 3) x := fun x => (h7 _ x _ _ s5.2 (by omega) (ok 4 x (by decide)) (by decide) (Or.inl (by decide))).trans (h2.2 _ x _ _ s5.2 (by decide))
  have e4 : ∀ x : Int, H (a + 4) x = H1 (a + 4) x := fun x => (h7 _ x _ _ s6.2 (by omega) (ok 4 x (by decide)) (by decide) (Or.inl (by decide))).trans (h2.2 _ x _ _ s6.2 (by decide))
  have e5 : ∀ x : Int, H (a + 5) x = H1 (a + 5) x := fun x => (h7 _ x _ _ s7.2 (by omega) (ok 3 x (by decide)) (by decide) (Or.inl (by decide))).trans (h2.2 _ x _ _ s7.2 (by decide))
  have e56 : σ 56 r = σ1 56 r := e 56 _ (by decide) (by decide) (by decide)
  have e79 : σ 79 r = σ1 79 r := e 79 _ (by decide) (by decide) (by decide)
  refine ⟨?_, ?_, by rw [ea 0 (by decide)]; exact t0, by rw [ea 4 (by decide), e56]; exact n1, ?_⟩
  · have sm : ∀ d : Int, c_sm σ1 r H1 a d → c_sm σ r H a d := fun d hd => c_sm_eq hd (fun x y hx => e x y (by omega) (by omega) (by omega)) (e 77 _ (by decide) (by decide) (by decide)) e56 (fun x => e 58 x (by decide) (by decide) (by decide)) (e2 d) (fun x y hx => by
      rcases hx.1 with z | z
      · rw [z]; exact e3 y
      · rw [z]; exact e4 y)
    obtain ⟨g1, g2⟩ := hgd
    have e78 : σ 78 r = σ1 78 r := e 78 _ (by decide) (by decide) (by decide)
    unfold c_gd
    rw [ea 7 (by decide), e78]
    refine ⟨g1, ?_⟩
    rcases g2 with y | ⟨y1, y2, y3⟩
    · exact Or.inl y
    · exact Or.inr ⟨y1, sm 0 y2, sm 1 y3⟩
  · obtain ⟨c1, c2, c3⟩ := jfs_call nf 0 σ1 σ2 h4j
    obtain ⟨a1, a2⟩ := han
    unfold c_an2
    rw [e79, ea 11 (by decide)]
    refine ⟨a1, ?_⟩
    rcases a2 with ⟨y1, y2⟩ | ⟨y1, y2, y3, y4, y5⟩ | ⟨y1, y2, y3, ⟨y4, y5, y6⟩⟩
    · have e80 : σ 80 r = σ1 80 r := by rw [h5 80 _ (by decide) (by decide), c3 r (by omega)]
      exact Or.inl ⟨y1, by rw [ea 12 (by decide), e80]; exact y2⟩
    · have e80 : σ 80 r = σ1 80 r := by rw [h5 80 _ (by decide) (by decide), c3 r (by omega)]
      refine Or.inr (Or.inl ⟨y1, by rw [ea 12 (by decide), e80]; exact y2, by rw [e80, e56]; exact ⟨y3, y4⟩, ?_⟩)
      rw [e80, e 58 _ (by decide) (by decide) (by decide)]
      exact y5
    · have hq := hce (by rw [h4 79 _ (by decide)]; exact y1)
      have e83 : σ 83 r = σ1 83 r := e 83 _ (by decide) (by decide) (by decide)
      refine Or.inr (Or.inr ⟨y1, ?_, by rw [ea 15 (by decide), e83]; exact y4, by rw [e83]; exact y5, fun i hi hi2 => ?_⟩)
      · rw [ea18, hq.1, h5 80 _ (by decide) (by decide)]
        exact hq.2.2.symm
      · rw [e83] at hi2
        rw [e5, e 84 _ (by decide) (by decide) (by decide)]
        exact (y6 i hi hi2).1
  · rw [h6]
    exact ⟨s1, ga_app s2, ⟨by rw [ea 5 (by decide)]; exact s3.1, ga_app s3.2⟩, ⟨by rw [ea 8 (by decide)]; exact s4.1, ga_app s4.2⟩, ⟨by rw [ea 9 (by decide)]; exact s5.1, ga_app s5.2⟩, ⟨by rw [ea 10 (by decide)]; exact s6.1, ga_app s6.2⟩, ⟨by rw [ea 16 (by decide)]; exact s7.1, ga_app s7.2⟩, ⟨by rw [ea 17 (by decide)]; exact s8.1, ga_app s8.2⟩⟩
end CRU
