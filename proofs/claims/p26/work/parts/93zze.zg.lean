section JF
theorem jru_call {f : Int} : ∀ (rem k : Nat) (σ σ2 : e3_H), a_jru f rem k σ = .inr σ2 → (∀ j : Nat, k ≤ j → j < k + rem → σ 79 (16 * f + j) = 2 → σ 83 (16 * f + j) = σ 68 (a_fd (σ 67) (σ 81 (16 * f + j)) (a_nf σ))) ∧ (∀ a x : Int, a ≠ 80 → σ2 a x = σ a x) ∧ ∀ x : Int, σ 79 x ≠ 2 → σ2 80 x = σ 80 x := by
  intro rem
  induction rem with
  | zero =>
    intro k σ σ2 h
    have h : Sum.inr σ = Sum.inr σ2 := h
    cases h
    exact ⟨fun j h1 h2 => by omega, fun _ _ _ => rfl, fun _ _ => rfl⟩
  | succ rem ih =>
    intro k σ σ2 h
    unfold a_jru at h
    split at h
    · rename_i h79
      split at h
      · cases h
      · rename_i σ1 hj
        unfold a_jan at hj
        split at hj
        · cases hj
        · split at hj
          · cases hj
          · rename_i h83
            split at hj
            · cases hj
            · cases hj
              obtain ⟨i1, i2, i3⟩ := ih _ _ _ h
              have e : ∀ (v a x : Int), a ≠ 80 → e3_up σ 80 (16 * f + k) v a x = σ a x := fun v a x ha => e3_up_ne (ne_1 ha)
              have e67 : ∀ v, e3_up σ 80 (16 * f + k) v 67 = σ 67 := fun v => funext fun x => e v 67 x (by decide)
              have enf : ∀ v, a_nf (e3_up σ 80 (16 * f + k) v) = a_nf σ := fun v => by unfold a_nf; rw [e v 40 41 (by decide)]
              refine ⟨fun j h1 h2 h3 => ?_, fun a x ha => (i2 a x ha).trans (e _ a x ha), fun x hx => ?_⟩
              · by_cases z : j = k
                · subst z
                  exact Decidable.not_not.mp h83
                · have := i1 j (by omega) (by omega) (by rw [e _ 79 _ (by decide)]; exact h3)
                  rw [e _ 83 _ (by decide), e67, enf, e _ 81 _ (by decide), e _ 68 _ (by decide)] at this
                  exact this
              · rw [i3 x (by rw [e _ 79 _ (by decide)]; exact hx)]
                refine e3_up_ne (fun z => ?_)
                rw [z.2] at hx
                exact hx h79
    · rename_i h79
      obtain ⟨i1, i2, i3⟩ := ih _ _ _ h
      refine ⟨fun j h1 h2 h3 => ?_, i2, i3⟩
      by_cases z : j = k
      · subst z; exact absurd h3 h79
      · exact i1 j (by omega) (by omega) h3
theorem jfs_call : ∀ (rem f : Nat) (σ σ2 : e3_H), a_jfs rem f σ = .inr σ2 → (∀ (f' k : Nat), f ≤ f' → f' < f + rem → (k : Int) < σ 70 f' → σ 79 (16 * (f' : Int) + k) = 2 → σ 83 (16 * (f' : Int) + k) = σ 68 (a_fd (σ 67) (σ 81 (16 * (f' : Int) + k)) (a_nf σ))) ∧ (∀ a x : Int, a ≠ 80 → σ2 a x = σ a x) ∧ ∀ x : Int, σ 79 x ≠ 2 → σ2 80 x = σ 80 x := by
  intro rem
  induction rem with
  | zero =>
    intro f σ σ2 h
    have h : Sum.inr σ = Sum.inr σ2 := h
    cases h
    exact ⟨fun f' k h1 h2 => by omega, fun _ _ _ => rfl, fun _ _ => rfl⟩
  | succ rem ih =>
    intro f σ σ2 h
    unfold a_jfs at h
    split at h
    · cases h
    · rename_i σ1 hj
      obtain ⟨j1, j2, j3⟩ := jru_call _ _ _ _ hj
      obtain ⟨i1, i2, i3⟩ := ih _ _ _ h
      refine ⟨fun f' k h1 h2 h3 h4 => ?_, fun a x ha => (i2 a x ha).trans (j2 a x ha), fun x hx => (i3 x (by rw [j2 79 x (by decide)]; exact hx)).trans (j3 x hx)⟩
      by_cases z : f' = f
      · subst z
        exact j1 k (by omega) (by omega) h4
      · have := i1 f' k (by omega) (by omega) (by rw [j2 70 _ (by decide)]; exact h3) (by rw [j2 79 _ (by decide)]; exact h4)
        have e67 : σ1 67 = σ 67 := funext fun x => j2 67 x (by decide)
        have enf : a_nf σ1 = a_nf σ := by unfold a_nf; rw [j2 40 41 (by decide)]
        rw [j2 83 _ (by decide), e67, enf, j2 81 _ (by decide), j2 68 _ (by decide)] at this
        exact this
end JF
section ZGO
variable {σ g H : e3_H} {G : e3_G} {m nf : Nat} {Vs : Int → Int → Int → List (Int × Int)} {mr0 : Nat → Nat} {way km : Nat → Int} {N : Nat → List a_ND}
/-- guards and answers of a rule -/
theorem zGA_of (hF : F_inv σ m nf) (hC : CT σ g nf H G) {f k : Nat} (hf : f < nf) (hk : (k : Int) < σ 70 f) (hk16 : (k : Int) < 16) : (σ 78 (16 * (f : Int) + k) ≠ 0 → zS1 σ (16 * (f : Int) + k) 0 ∧ zS1 σ (16 * (f : Int) + k) 1) ∧ zAn σ nf (16 * (f : Int) + k) ∧ 0 ≤ σ 56 (16 * (f : Int) + k) ∧ σ 56 (16 * (f : Int) + k) ≤ 8 := by
  obtain ⟨σ1, σ2, H1, K1, G1, h1, h2, h3, ⟨h4, h4j, h4n⟩, h5, h6, h7, h8⟩ := hC
  have F1 := hF.2.2.2.1 f (by omega) (by omega)
  have hji := F1.2.2.2 k (by omega) hk
  obtain ⟨⟨z1, z2, z3⟩, z4⟩ := h1
  obtain ⟨cx, p1, p2, p3, p7, p8, p9⟩ := z4 f hf
  have e : ∀ a x : Int, (46 ≤ a ∧ a ≤ 58) ∨ (67 ≤ a ∧ a ≤ 85) → a ≠ 71 → a ≠ 80 → σ a x = σ1 a x := fun a x ha hb hc => (h5 a x ha hb).trans (h4 a x hc)
  have e70 : σ 70 f = σ1 70 f := e 70 _ (by decide) (by decide) (by decide)
  obtain ⟨r1, lo, hi, r2, ⟨⟨_, _, _, ⟨n1, n2, _⟩, _, hgd, han⟩, _⟩, _⟩ := p8 k (by omega)
  generalize hr : 16 * (f : Int) + (k : Int) = r at *
  have e56 : σ 56 r = σ1 56 r := e 56 _ (by decide) (by decide) (by decide)
  have tm : ∀ i : Int, c_tm σ1 r H1 (H1 (H1 (H1 15 f) 4) k) i → zT1 σ (4 * r + i) := fun i hi h75 => by
    rw [e 75 _ (by decide) (by decide) (by decide)] at h75
    rw [e 76 _ (by decide) (by decide) (by decide)]
    rcases hi with y | y
    · exact ⟨y.2.2.1, by have := y.2.2.2.1; omega⟩
    · omega
  have sm : ∀ d : Int, c_sm σ1 r H1 (H1 (H1 (H1 15 f) 4) k) d → zS1 σ r d := fun d hd => by
    obtain ⟨d1, d2, d3⟩ := hd
    refine ⟨tm (2 * d) d1, ?_⟩
    rw [e 77 _ (by decide) (by decide) (by decide)]
    rcases d3 with y | y
    · exact Or.inl y.1
    · refine Or.inr ⟨y.1, ?_⟩
      rw [show 4 * r + 2 * d + 1 = 4 * r + (2 * d + 1) by omega]
      exact tm _ y.2
  refine ⟨fun h78 => ?_, ?_, by rw [e56]; exact n2.1, by rw [e56]; exact n2.2⟩
  · rw [e 78 _ (by decide) (by decide) (by decide)] at h78
    rcases hgd.2 with y | y
    · exact absurd y h78
    · exact ⟨sm 0 y.2.1, sm 1 y.2.2⟩
  · have e79 : σ 79 r = σ1 79 r := e 79 _ (by decide) (by decide) (by decide)
    obtain ⟨c1, c2, c3⟩ := jfs_call nf 0 σ1 σ2 h4j
    unfold zAn
    rw [e79]
    rcases han.2 with y | y | y
    · exact Or.inl y.1
    · refine Or.inr (Or.inl ⟨y.1, ?_⟩)
      rw [h5 80 _ (by decide) (by decide), c3 r (by omega)]
      have := y.2.2
      omega
    · refine Or.inr (Or.inr ⟨y.1, ?_⟩)
      have h79 : σ2 79 r = 2 := by rw [h4 79 _ (by decide)]; exact y.1
      have hce := h3 f k (Or.inl hf) hf (by rw [h4 70 _ (by decide)]; omega)
      rw [hr] at hce
      obtain ⟨w1, w2, w3⟩ := hce h79
      have enf : a_nf σ1 = nf := by unfold a_nf; rw [h4n]; omega
      have h83 := c1 f k (Nat.zero_le _) (by omega) (by omega) (by rw [hr]; exact y.1)
      rw [hr, enf] at h83
      have e67 : σ2 67 = σ1 67 := funext fun x => h4 67 x (by decide)
      rw [e67, h4 81 _ (by decide)] at w2 w3
      rw [h5 80 _ (by decide) (by decide), w3, e 83 _ (by decide) (by decide) (by decide), e 68 _ (by decide) (by decide) (by decide)]
      refine ⟨w2, h83, fun i i0 i1 i2 => ?_⟩
      have := hji.2.2.2 (by rw [e79]; exact y.1) i.toNat (by omega) (by rw [show ((i.toNat : Nat) : Int) = i by omega, e 83 _ (by decide) (by decide) (by decide)]; exact i2)
      rw [show ((i.toNat : Nat) : Int) = i by omega] at this
      have h56 := hji.2.1
      omega
/-- all that sorting needs, of a text that is held -/
theorem zG_of (hP : PXc σ m nf Vs mr0) (hX : TX σ g m nf Vs way km N H G) : zG σ nf Vs := by
  obtain ⟨p1, ⟨p2, p3⟩, p4, p5, p6, p7, p8⟩ := hP
  intro f f0 f1
  have hf : f.toNat < nf := by omega
  have ef : ((f.toNat : Nat) : Int) = f := by omega
  have F1 := p1.2.2.2.1 f f0 f1
  refine ⟨⟨F1.2.1, F1.1.1.2⟩, F1.2.2.1, fun k k0 k1 => ?_⟩
  have h70 := F1.2.2.1
  have h68 := F1.2.1
  have ek : ((k.toNat : Nat) : Int) = k := by omega
  obtain ⟨q1, q2⟩ := p8 f.toNat hf
  rw [ef] at q1 q2
  obtain ⟨m1, m2, m3, m4, m5⟩ := q2
  obtain ⟨a1, hi, L, a2, a3, a4, a5, a6, a7, a8⟩ := m5 k.toNat (by omega)
  have hw := hX.2.2.1 f.toNat hf
  obtain ⟨cx, pn, cnt, mm, A, B, ⟨_, _, _, _, _, b9, _⟩, h2, _⟩ := hw
  rw [ef] at b9 h2
  obtain ⟨d1, d2, lo, hi2, L', d3, d4⟩ := b9 k.toNat (by omega)
  obtain ⟨lo2, l0, L2, l1, l2, l3, l4, l5⟩ := p2 f f0 f1 k k0 k1
  rw [ek] at a1 a5 a7 a8 d2 d3 d4
  have hL : L = L2 := ach_inj L L2 _ (fun c hc => by have := (a6 c hc).1; omega) (fun c hc => by have := (l3 c hc).1; omega) a5 l2
  have h74 := rsum_k (σ := σ) (f := f) (mr0 f.toNat) k.toNat (by omega) (fun j hj => (m5 j hj).1)
  rw [ek] at h74
  have ga := zGA_of (k := k.toNat) p1 hX.2.2.2.2.1 hf (by rw [ef]; omega) (by omega)
  rw [ef, ek] at ga
  refine ⟨⟨⟨hi, L, a2, a3, by rw [hL]; omega, a5, a6, a7, by omega, fun w w0 w1 => ⟨(a8 w w0 w1).1, (a8 w w0 w1).2.1, fun p hp => ?_⟩⟩, ga.1⟩, ga.2⟩
  obtain ⟨pw1, _⟩ := row_pw d3 (d4 w w0 w1)
  obtain ⟨⟨u1, u2⟩, _⟩ := pw1 p hp
  obtain ⟨⟨_, _, _, _, _, _, _, _, _, c53⟩, ⟨_, c54⟩, _⟩ := (d3.2.2.2.2.1 p.1 u1 u2).1
  have h56 := ga.2.2
  refine ⟨?_, ?_⟩
  · rcases c53 with y | y
    · exact Or.inl y
    · exact Or.inr (by omega)
  · rcases c54 with y | y
    · exact Or.inl y
    · exact Or.inr (by omega)
end ZGO
