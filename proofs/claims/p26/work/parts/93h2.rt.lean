/-- the number of a row's rule, as the class has it -/
def rnm (f i : Int) (H : e3_H) : Int := H (H (H (H (H 15 f) 6) i) 0) 0
/-- nodes of the reference, as a list of nodes has them -/
def RTn (b f : Int) (N : List a_ND) (H : e3_H) : Prop := ∀ (j : Nat) (d : a_ND), N[j]? = some d → (H 102 (b + j) = d.1 ∧ H 106 (b + j) = d.2.2.2.1 ∧ (0 ≤ d.1 ∧ d.1 ≤ 6) ∧ 0 ≤ d.2.2.2.1 ∧ 1 ≤ d.2.2.2.2.2) ∧ (d.1 = 1 ∨ d.1 = 2 → (0 ≤ d.2.1 ∧ d.2.1 < H (H 15 f) 5) ∧ H 103 (b + j) = 16 * f + rnm f d.2.1 H ∧ 0 ≤ rnm f d.2.1 H ∧ rnm f d.2.1 H < 16) ∧ (¬ (d.1 = 1 ∨ d.1 = 2) → H 103 (b + j) = -4 ∧ d.2.1 = -1) ∧ (3 ≤ d.1 → H 105 (b + j) = d.2.2.1) ∧ (d.1 < 3 → H 105 (b + j) = -4 ∧ d.2.2.1 = -1) ∧ mch H (H 108 (b + j)) ((chl N d.2.2.2.1.toNat (j + 1)).map (fun (c : Nat) => b + (c : Int))) ∧ ∀ x : Nat, x ∈ chl N d.2.2.2.1.toNat (j + 1) → x < N.length
/-- nodes of the reference, by the rows -/
def RTa (b : Int) (R : a_RW) (N : List a_ND) (H : e3_H) : Prop := ∀ (j : Nat) (d : a_ND), N[j]? = some d → (H 102 (b + j) = d.1 ∧ H 106 (b + j) = d.2.2.2.1 ∧ (0 ≤ d.1 ∧ d.1 ≤ 6) ∧ 0 ≤ d.2.2.2.1 ∧ 1 ≤ d.2.2.2.2.2) ∧ (d.1 = 1 ∨ d.1 = 2 → ∃ w, R[d.2.1.toNat]? = some w ∧ 0 ≤ d.2.1 ∧ H 103 (b + j) = w.1) ∧ (¬ (d.1 = 1 ∨ d.1 = 2) → H 103 (b + j) = -4 ∧ d.2.1 = -1) ∧ (3 ≤ d.1 → H 105 (b + j) = d.2.2.1) ∧ (d.1 < 3 → H 105 (b + j) = -4 ∧ d.2.2.1 = -1) ∧ mch H (H 108 (b + j)) ((chl N d.2.2.2.1.toNat (j + 1)).map (fun (c : Nat) => b + (c : Int))) ∧ ∀ x : Nat, x ∈ chl N d.2.2.2.1.toNat (j + 1) → x < N.length
theorem RTn_a {b f : Int} {R : a_RW} {N : List a_ND} {K : e3_H} (h : RTa b R N K) (hr : ∀ (i : Nat) (w : Int × List (Int × Int)), R[i]? = some w → (i : Int) < K (K 15 f) 5 ∧ w.1 = 16 * f + rnm f i K ∧ 0 ≤ rnm f i K ∧ rnm f i K < 16) : RTn b f N K := fun j d hj => by
  obtain ⟨h1, h2, h3, h4, h5, h6, h7⟩ := h j d hj
  refine ⟨h1, fun z => ?_, h3, h4, h5, h6, h7⟩
  obtain ⟨w, w1, w2, w3⟩ := h2 z
  obtain ⟨r1, r2, r3⟩ := hr _ w w1
  rw [show ((d.2.1.toNat : Nat) : Int) = d.2.1 by omega] at r1 r2 r3
  exact ⟨⟨w2, r1⟩, by rw [w3]; exact r2, r3⟩
section RTS
variable {σ : e3_H} {m : Nat} {R : a_RW} {way b : Int}
theorem ndo_rg (s : Int) : 3 ≤ ndo s ∧ ndo s ≤ 6 := by
  unfold ndo
  split
  · decide
  · split
    · decide
    · split <;> decide
theorem RTa_of {D : List (a_PT × Int)} {N : List a_ND} {K : e3_H} (hT : TRM σ m R way b D K) (hZ : ZDN σ m R way b N D [] []) (hD : D.length = N.length) : RTa b R N K := by
  intro j d hj
  have hjl : j < D.length := by rw [hD]; exact (List.getElem?_eq_some_iff.mp hj).1
  obtain ⟨⟨π, par⟩, hDj⟩ : ∃ x, D[j]? = some x := ⟨D[j], List.getElem?_eq_getElem hjl⟩
  obtain ⟨d', e1, ⟨k, N', X, hg, hX⟩, _⟩ := hZ.2.1 j π par hDj
  rw [hj] at e1
  cases e1
  have hc := hT.2.1 j π par hjl hDj
  obtain ⟨g1, g2⟩ := gr_hd hg
  have hkid : cld b (b + (j : Int)) D 0 = (chl N d.2.2.2.1.toNat (j + 1)).map (fun (c : Nat) => b + (c : Int)) := by
    have hl := hT.2.2.2.1 j π par hDj
    refine (inc_eq _ _ (cld_up D 0) (chl_up N b _ _) (fun x hx => ?_)).2 ?_
    · obtain ⟨i, dd, h1, h2, h3⟩ := cld_mem D 0 hx
      obtain ⟨dπ, dp⟩ := dd
      obtain ⟨d2, _, _, q⟩ := hZ.2.1 i dπ dp h1
      obtain ⟨di, q1, q2⟩ := q j h2
      rw [hj] at q1
      cases q1
      exact List.mem_map.mpr ⟨i, q2, by rw [h3, Nat.zero_add]⟩
    · rw [List.length_map, chl_len, hl]
      omega
  have hch := (hT.2.2.1 j hjl).1
  rw [hkid] at hch
  have hlt : ∀ x : Nat, x ∈ chl N d.2.2.2.1.toNat (j + 1) → x < N.length := fun x hx => by
    have hm : b + (x : Int) ∈ cld b (b + (j : Int)) D 0 := by rw [hkid]; exact List.mem_map.mpr ⟨x, hx, rfl⟩
    obtain ⟨i, dd, h1, _, h3⟩ := cld_mem D 0 hm
    have := (List.getElem?_eq_some_iff.mp h1).1
    omega
  have hcn : 0 ≤ d.2.2.2.1 := by omega
  have hsz : 1 ≤ d.2.2.2.2.2 := by omega
  cases k with
  | zero => exact hg.elim
  | succ k =>
    unfold gr at hg
    unfold ctt at hc
    cases hf : fst σ π R 0 with
    | none =>
      rw [hf] at hg hc
      simp only at hg hc
      cases hg
      exact ⟨⟨hc.1, hc.2.2.2, show (0 : Int) ≤ 0 ∧ (0 : Int) ≤ 6 by decide, show (0 : Int) ≤ 0 by decide, hsz⟩, fun z => absurd z (show ¬ ((0 : Int) = 1 ∨ (0 : Int) = 2) by decide), fun _ => ⟨hc.2.1, rfl⟩, fun z => absurd z (show ¬ (3 : Int) ≤ 0 by decide), fun _ => ⟨hc.2.2.1, rfl⟩, hch, hlt⟩
    | some u =>
      obtain ⟨i, r, T⟩ := u
      obtain ⟨j0, ji, hjR, _, _⟩ := fst_some R 0 i (r, T) hf
      have eij : j0 = i := by omega
      subst eij
      rw [hf] at hg hc
      simp only at hg hc
      cases hco : cho σ m R π way T 0 none 0 with
      | none =>
        rw [hco] at hg hc
        simp only at hg hc
        have rule : ∃ w, R[((j0 : Int)).toNat]? = some w ∧ 0 ≤ (j0 : Int) ∧ K 103 (b + (j : Int)) = w.1 := ⟨(r, T), by rw [Int.toNat_natCast]; exact hjR, by omega, hc.1⟩
        rcases hg with ⟨h1, h2⟩ | ⟨h1, N2, h2, h3⟩
        · cases h2
          have c2 := hc.2.2.1 h1
          exact ⟨⟨c2.1, c2.2, show (0 : Int) ≤ 1 ∧ (1 : Int) ≤ 6 by decide, show (0 : Int) ≤ 0 by decide, hsz⟩, fun _ => rule, fun z => absurd (Or.inl rfl) z, fun z => absurd z (show ¬ (3 : Int) ≤ 1 by decide), fun _ => ⟨hc.2.1, rfl⟩, hch, hlt⟩
        · cases h3
          have c2 := hc.2.2.2.1 h1
          exact ⟨⟨c2.1, c2.2, show (0 : Int) ≤ 2 ∧ (2 : Int) ≤ 6 by decide, show (0 : Int) ≤ 1 by decide, hsz⟩, fun _ => rule, fun z => absurd (Or.inr rfl) z, fun z => absurd z (show ¬ (3 : Int) ≤ 2 by decide), fun _ => ⟨hc.2.1, rfl⟩, hch, hlt⟩
      | some p =>
        obtain ⟨q, x⟩ := p
        rw [hco] at hg hc
        obtain ⟨N2, h2, h3⟩ := hg
        cases h3
        have nr := ndo_rg (σ 47 q)
        exact ⟨⟨hc.1, hc.2.2.2, ⟨by show 0 ≤ ndo (σ 47 q); omega, nr.2⟩, hcn, hsz⟩, fun z => absurd z (by show ¬ (ndo (σ 47 q) = 1 ∨ ndo (σ 47 q) = 2); omega), fun _ => ⟨hc.2.1, rfl⟩, fun _ => hc.2.2.1, fun z => absurd z (by show ¬ ndo (σ 47 q) < 3; omega), hch, hlt⟩
theorem RTa_eq {N : List a_ND} {H K : e3_H} (h : RTa b R N H) (hn : N.length ≤ 120) (e : ∀ a k : Int, 102 ≤ a → a ≤ 110 → b ≤ k → k < b + 120 → K a k = H a k) : RTa b R N K := by
  intro j d hj
  have hjl := (List.getElem?_eq_some_iff.mp hj).1
  obtain ⟨h1, h2, h3, h4, h5, h6, h7⟩ := h j d hj
  have i1 : b ≤ b + (j : Int) := by omega
  have i2 : b + (j : Int) < b + 120 := by omega
  rw [e 102 _ (by decide) (by decide) i1 i2, e 103 _ (by decide) (by decide) i1 i2, e 105 _ (by decide) (by decide) i1 i2, e 106 _ (by decide) (by decide) i1 i2, e 108 _ (by decide) (by decide) i1 i2]
  refine ⟨h1, h2, h3, h4, h5, mch_eq _ _ (fun c hc => ?_) h6, h7⟩
  obtain ⟨x, x1, x2⟩ := List.mem_map.mp hc
  have := h7 x x1
  exact e 110 c (by decide) (by decide) (by omega) (by omega)
end RTS
