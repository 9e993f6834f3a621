section ZXO
variable {σ g H : e3_H} {G : e3_G} {m nf : Nat} {Vs : Int → Int → Int → List (Int × Int)} {way km : Nat → Int} {N : Nat → List a_ND} {f : Nat}
/-- patterns of a rule are chained upward -/
theorem zPT_of {r cnt lo hi : Int} (h : ∀ q : Int, lo ≤ q → q < hi → c_pt σ r g H G cnt hi q) : ∀ (n : Nat) (q : Int), (q = -4 ∨ (lo ≤ q ∧ q < hi ∧ hi - q ≤ n)) → zPT n H G (c_lk g q) := by
  intro n
  induction n with
  | zero =>
    intro q hq
    rcases hq with z | ⟨z1, z2, z3⟩
    · show c_lk g q < 0
      rw [c_lk, if_pos z]; decide
    · omega
  | succ n ih =>
    intro q hq
    by_cases z : q = -4
    · left
      show c_lk g q < 0
      rw [c_lk, if_pos z]; decide
    · rcases hq with y | ⟨z1, z2, z3⟩
      · exact absurd y z
      right
      obtain ⟨p0, _, ⟨l1, l2⟩, ⟨l3, l4⟩, _⟩ := h q z1 z2
      have e : c_lk g q = g 0 q := if_neg z
      rw [e, l3, l1]
      refine ⟨⟨p0.1, p0.2.1⟩, ih _ ?_, ih _ ?_⟩
      · rcases l4 with y | y
        · exact Or.inl y
        · exact Or.inr ⟨by omega, y.2.1, by omega⟩
      · rcases l2 with y | y
        · exact Or.inl y
        · exact Or.inr ⟨by omega, y.2.1, by omega⟩
/-- a rule as it was read, and as it is now -/
theorem CT_sk (hC : CT σ g nf H G) (hf : f < nf) (k : Nat) (hk : (k : Int) < σ 70 f) : c_sk (H (H (H 15 f) 4) k) H G := by
  obtain ⟨σ1, σ2, H1, K1, G1, h1, h2, h3, h4, h5, ⟨E, h6⟩, h7, h8⟩ := hC
  obtain ⟨⟨z1, z2, z3⟩, z4⟩ := h1
  obtain ⟨cx, p1, p2, ⟨p3, p4, p5, p6⟩, p7, p8, p9⟩ := z4 f hf
  have e70 : σ 70 f = σ1 70 f := (h5 70 _ (by decide) (by decide)).trans (h4.1 70 _ (by decide))
  obtain ⟨r1, lo, hi, r2, ⟨⟨⟨s1, s2, s3, s4, s5, s6, s7, s8⟩, _⟩, _⟩, _⟩ := p8 k (by omega)
  have hfu := (z3 f hf).1
  have e15 : H 15 f = H1 15 f := (h8 f).trans (h2.1 15 f (Or.inr (by decide)))
  have ef : H (H1 15 f) 4 = H1 (H1 15 f) 4 := (h7 _ 4 _ _ hfu.2 hfu.1 (okt_d (by decide) (by decide) (by decide) (Or.inr (by decide))) (by decide) (Or.inr (by decide))).trans (h2.1 _ 4 (Or.inl (by decide)))
  have er : H (H1 (H1 15 f) 4) k = H1 (H1 (H1 15 f) 4) k := (h7 _ k _ _ p6 p5 (okt_d (by decide) (by decide) (by decide) (Or.inl (by decide))) (by decide) (Or.inl (by decide))).trans (h2.2 _ k _ _ p6 (by decide))
  rw [e15, ef, er]
  generalize H1 (H1 (H1 15 f) 4) k = a at s1 s2 s3 s4 s5 s6 s7 s8
  have ea : ∀ x : Int, x ≠ 18 → H a x = H1 a x := fun x hx => (h7 a x _ _ s2 s1 (okt_d (by decide) (by decide) (by decide) (Or.inl (by decide))) (by decide) (Or.inl (by decide))).trans (h2.1 a x (Or.inl hx))
  rw [h6]
  exact ⟨s1, ga_app s2, ⟨by rw [ea 5 (by decide)]; exact s3.1, ga_app s3.2⟩, ⟨by rw [ea 8 (by decide)]; exact s4.1, ga_app s4.2⟩, ⟨by rw [ea 9 (by decide)]; exact s5.1, ga_app s5.2⟩, ⟨by rw [ea 10 (by decide)]; exact s6.1, ga_app s6.2⟩, ⟨by rw [ea 16 (by decide)]; exact s7.1, ga_app s7.2⟩, ⟨by rw [ea 17 (by decide)]; exact s8.1, ga_app s8.2⟩⟩
theorem zFU_of (hY : FY σ g Vs f H G) (hC : CT σ g nf H G) (hf : f < nf) (hT : zTR (H (H 15 f) 10) H G) : zFU (H 15 f) H G := by
  obtain ⟨cx, pn, cnt, mr, A, B, h1, h2, h3, h4, h5, h6, h7⟩ := hY
  obtain ⟨b1, b2, b3, b4, ⟨b5, b6, b7, b8⟩, b9, b10⟩ := h1
  obtain ⟨c1, ⟨c2, c3⟩, c4, c5⟩ := h5
  have ru : ∀ k : Nat, k < mr → zRU (A k) H G := fun k hk => by
    obtain ⟨d1, d2, lo, hi, L, ⟨u1, u2, u3, u4, u5, u6, u7⟩, d4⟩ := b9 k hk
    obtain ⟨s1, s2, s3, s4, s5, s6, s7, s8⟩ := CT_sk hC hf k (by omega)
    rw [d1] at s1 s2 s3 s4 s5 s6 s7 s8
    have hc := u1.2.2.2.2.2.1
    have ha4 := u1.2.2.2.2.1
    refine ⟨⟨s1, s2⟩, ⟨by rw [ha4]; exact hc, by rw [s3.1]; exact ⟨by omega, s3.2⟩⟩, by rw [s4.1]; exact ⟨by omega, s4.2⟩, by rw [s5.1]; exact ⟨by omega, s5.2⟩, by rw [s6.1]; exact ⟨by omega, s6.2⟩, by rw [s7.1]; exact ⟨by omega, s7.2⟩, (hi - σ 72 (16 * (f : Int) + k)).toNat, ?_⟩
    rw [u2]
    exact zPT_of (fun q q1 q2 => (u5 q q1 q2).1) _ _ (Or.inr ⟨u7.1, u7.2.1, by omega⟩)
  have h74 : ∀ k : Nat, k < mr → 0 ≤ σ 74 (16 * (f : Int) + k) := fun k hk => (b9 k hk).2.1
  obtain ⟨_, _, Lp, l1, l2, _, l4, l5, _⟩ := h4
  refine ⟨b1, ⟨by omega, c2, c3⟩, ⟨by omega, b7, b8, fun k k0 k1 => ?_⟩, ⟨by omega, by rw [b2.1]; omega, by rw [b2.1]; exact b2.2, fun i i0 i1 => ?_⟩, ⟨Lp, l5.2, by omega, l1, l2⟩, hT⟩
  · have := ru k.toNat (by omega)
    have d1 := (b9 k.toNat (by omega)).1
    rw [show ((k.toNat : Nat) : Int) = k by omega] at d1 this
    rw [d1]
    exact this
  · rw [b2.1]
    have hl := rls_len2 (Vs := Vs f) mr h74
    have hlt : i.toNat < (rls σ f (Vs f) false mr).length := by omega
    obtain ⟨k, w, a1, a2, a3, a4⟩ := rls_at mr i.toNat _ h74 (List.getElem?_eq_getElem hlt)
    obtain ⟨e1, e2, e3⟩ := h7 k w (Or.inl ⟨a1, a2.2⟩) a2.1
    rw [← a3, show ((i.toNat : Nat) : Int) = i by omega] at e1 e2
    rw [e1]
    obtain ⟨o1, o2, o3, ⟨o4, o5⟩, _⟩ := e2
    refine ⟨⟨o1, o2⟩, by rw [o3]; exact ru k a1, ?_⟩
    rw [o4]
    exact ⟨by omega, o5⟩
theorem zSX_of (hX : TX σ g m nf Vs way km N H G) (h12 : nf ≤ 12) (hN : ∀ f : Nat, f < nf → NCt (N f)) : zSX H G := by
  obtain ⟨h1, h2, h3, h4, h5, h6⟩ := hX
  refine ⟨by omega, fun f f0 f1 => ?_⟩
  have hf : f.toNat < nf := by omega
  have ef : ((f.toNat : Nat) : Int) = f := by omega
  have hy := h3 f.toNat hf
  obtain ⟨cx, cnt, d1, d2, d3, d4, d5, d6⟩ := h6 f.toNat hf
  have := zFU_of hy h5 hf (zTR_of (h4.2.1 f.toNat hf).1 d3 d6 (hN f.toNat hf))
  rw [ef] at this
  exact this
end ZXO
