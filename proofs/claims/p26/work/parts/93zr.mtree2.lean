/-- the shape of a tree of the reference -/
def zTN (f b : Int) (n : Nat) (K : e3_H) : Prop := n ≤ 120 ∧ ∀ j : Nat, j < n → (K 107 (b + j) = -4 ∨ ∃ i : Nat, i < j ∧ K 107 (b + j) = b + i) ∧ (∃ L : List Int, mch K (K 108 (b + j)) L ∧ (L.length : Int) = K 106 (b + j) ∧ ∀ c, c ∈ L → ∃ i : Nat, (j < i ∧ i < n) ∧ c = b + i) ∧ K 106 (b + j) ≤ 120 ∧ (K 105 (b + j) = -4 ∨ (1 ≤ K 105 (b + j) ∧ K 105 (b + j) < 2147483647)) ∧ (K 102 (b + j) = 0 ∨ ((16 * f ≤ K 103 (b + j) ∧ K 103 (b + j) < 16 * f + K 70 f) ∧ (0 ≤ K 104 (b + j) ∧ K 104 (b + j) < K 74 (K 103 (b + j))) ∧ (K 102 (b + j) = 1 ∨ (K 102 (b + j) = 2 ∧ K 106 (b + j) = 1 ∧ K 78 (K 103 (b + j)) ≠ 0))) ∨ ((3 ≤ K 102 (b + j) ∧ K 102 (b + j) ≤ 6) ∧ zPL (K 68 f) 11 (K 105 (b + j))))
section ZTN
variable {σ K : e3_H} {m : Nat} {f way b : Int} {RL : List (Int × Int × List (Int × Int))} {D : List (a_PT × Int)}
theorem stp_kds {π : a_PT} {e : Int × Int × Int} {R : a_RW} (h : stp σ m R way π e) : ∃ v, v ∈ kds σ m R way π ∧ v.1 = e := by
  unfold stp at h
  unfold kds
  cases hf : fst σ π R 0 with
  | none => rw [hf] at h; exact h.elim
  | some u =>
    obtain ⟨i, r, T⟩ := u
    rw [hf] at h
    simp only at h ⊢
    cases hc : cho σ m R π way T 0 none 0 with
    | none =>
      rw [hc] at h
      simp only at h ⊢
      rw [if_neg h.1]
      exact ⟨((0, r, r), (0, 0, 0, 0)), List.mem_singleton.mpr rfl, h.2.symm⟩
    | some p =>
      obtain ⟨q, x⟩ := p
      rw [hc] at h
      simp only at h ⊢
      refine ⟨((x, e.2.1, e.2.2), enc (σ 47 q) (e.2.1, e.2.2)), List.mem_map.mpr ⟨(e.2.1, e.2.2), h.2, rfl⟩, ?_⟩
      obtain ⟨e1, e2, e3⟩ := e
      have h1 : e1 = x := h.1
      rw [h1]
theorem SP_D (hF : SFT σ m f RL) (hL : LNK σ m (rwl σ RL) way b D K) : ∀ (n j : Nat) (π : a_PT) (par : Int), j < n → D[j]? = some (π, par) → SP σ m (rwl σ RL) π := by
  intro n
  induction n with
  | zero => intro j π par hj; omega
  | succ n ih =>
    intro j π par hj hD
    rcases (hL j π par hD).2 with ⟨y1, _⟩ | ⟨e, π', i, pp, y1, y2, y3, y4, y5, y6⟩
    · rw [y1]; trivial
    · have hs := ih i π' pp (by omega) y4
      obtain ⟨v, v1, v2⟩ := stp_kds y5
      have := (kds_ok hF hs v1).2.1
      rw [y1, ← v2]
      exact this
theorem zTN_of (hF : SFT σ m f RL) (hb0 : 0 ≤ b) (h3 : ∀ e, e ∈ RL → ∀ p, p ∈ tl σ e.2.2 → (p.2 - 1) / 8 = 0 → p.2 ≤ σ 68 f) (hrg : ∀ e, e ∈ RL → 16 * f ≤ e.1 ∧ e.1 < 16 * f + σ 70 f) (hf : 0 ≤ f) (e68 : K 68 f = σ 68 f) (e70 : K 70 f = σ 70 f) (e74 : ∀ r : Int, K 74 r = σ 74 r) (e78 : ∀ r : Int, K 78 r = σ 78 r) (hT : TRM σ m (rwl σ RL) way b D K) : zTN f b D.length K := by
  have hr := SFT_hr hF
  obtain ⟨hR, hRo, hk, hKP, h40, hE⟩ := id hF
  obtain ⟨t1, t2, t3, t4, t5⟩ := hT
  have memR : ∀ w, w ∈ rwl σ RL → ∃ e, e ∈ RL ∧ w = (e.1, tl σ e.2.2) := fun w hw => by
    obtain ⟨e, e1, e2⟩ := List.mem_map.mp hw
    exact ⟨e, e1, e2.symm⟩
  have h8 : ∀ w, w ∈ rwl σ RL → ∀ p, p ∈ w.2 → (p.2 - 1) % 8 < 4 := fun w hw p hp => by
    obtain ⟨e, e1, e2⟩ := memR w hw
    rw [e2] at hp
    exact ((hE e e1).2 p hp).2.2.1
  have h33 : ∀ w, w ∈ rwl σ RL → ∀ p, p ∈ w.2 → (p.2 - 1) / 8 = 0 → p.2 ≤ σ 68 f := fun w hw p hp => by
    obtain ⟨e, e1, e2⟩ := memR w hw
    rw [e2] at hp
    exact h3 e e1 p hp
  refine ⟨t5, fun j hj => ?_⟩
  obtain ⟨⟨π, par⟩, hD⟩ : ∃ d, D[j]? = some d := ⟨_, List.getElem?_eq_getElem hj⟩
  obtain ⟨l1, l2⟩ := t1 j π par hD
  have hS := SP_D hF t1 (j + 1) j π par (by omega) hD
  have hct := t2 j π par hj hD
  obtain ⟨c1, c2⟩ := t3 j hj
  have hlen := t4 j π par hD
  have e106 : K 106 (b + j) = ((kds σ m (rwl σ RL) way π).length : Int) ∧ (kds σ m (rwl σ RL) way π).length ≤ 99 := by
    unfold ctt at hct
    unfold kds
    cases hfs : fst σ π (rwl σ RL) 0 with
    | none => rw [hfs] at hct; simp only at hct ⊢; exact ⟨hct.2.2.2, by decide⟩
    | some u =>
      obtain ⟨i, r, T⟩ := u
      rw [hfs] at hct
      simp only at hct ⊢
      cases hc : cho σ m (rwl σ RL) π way T 0 none 0 with
      | none =>
        rw [hc] at hct
        simp only at hct ⊢
        by_cases z : σ 78 r = 0
        · rw [if_pos z]; exact ⟨(hct.2.2.1 z).2, by decide⟩
        · rw [if_neg z]; exact ⟨(hct.2.2.2.1 z).2, by show 1 ≤ 99; decide⟩
      | some p =>
        obtain ⟨q, x⟩ := p
        rw [hc] at hct
        simp only at hct ⊢
        rw [List.length_map]
        exact ⟨hct.2.2.2, lbs_len (by unfold rwl; rw [List.length_map]; exact h40) hk.2.1⟩
  refine ⟨?_, ⟨cld b (b + j) D 0, c1, by rw [hlen]; exact e106.1.symm, fun c hc => ?_⟩, by omega, ?_⟩
  · rw [l1]
    rcases l2 with ⟨_, y⟩ | ⟨e, π', i, pp, y1, y2, y3, _⟩
    · exact Or.inl y
    · exact Or.inr ⟨i, y2, y3⟩
  · obtain ⟨i, d, g1, g2, g3⟩ := cld_mem D 0 hc
    rw [Nat.zero_add] at g3
    obtain ⟨dπ, dp⟩ := d
    have g2 : dp = b + (j : Int) := g2
    refine ⟨i, ⟨?_, (List.getElem?_eq_some_iff.mp g1).1⟩, g3⟩
    rcases (t1 i dπ dp g1).2 with ⟨_, y⟩ | ⟨e, π', i', pp, y1, y2, y3, y4, _⟩
    · exfalso
      have y : dp = -4 := y
      omega
    · omega
  · unfold ctt at hct
    cases hfs : fst σ π (rwl σ RL) 0 with
    | none => rw [hfs] at hct; simp only at hct; exact ⟨Or.inl hct.2.2.1, Or.inl hct.1⟩
    | some u =>
      obtain ⟨i, r, T⟩ := u
      rw [hfs] at hct
      simp only at hct
      obtain ⟨j0, _, hgi, hlv, _⟩ := fst_some (rwl σ RL) 0 i (r, T) hfs
      have hm := List.mem_of_getElem? hgi
      cases hc : cho σ m (rwl σ RL) π way T 0 none 0 with
      | none =>
        rw [hc] at hct
        simp only at hct
        obtain ⟨e, e1, e2⟩ := memR _ hm
        have er : r = e.1 := congrArg (·.1) e2
        refine ⟨Or.inl hct.2.1, Or.inr (Or.inl ⟨?_, ?_, ?_⟩)⟩
        · rw [hct.1, e70, er]; exact hrg e e1
        · rw [hct.1, e74]; exact hct.2.2.2.2
        · by_cases z : σ 78 r = 0
          · exact Or.inl (hct.2.2.1 z).1
          · exact Or.inr ⟨(hct.2.2.2.1 z).1, (hct.2.2.2.1 z).2, by rw [hct.1, e78]; exact z⟩
      | some p =>
        obtain ⟨q, x⟩ := p
        rw [hc] at hct
        simp only at hct
        have hqx : (q, x) ∈ T ∧ ask π x = true := by
          rcases cho_some T 0 none 0 (q, x) hc with z | z
          · cases z
          · exact z
        have hx1 := (hr _ hm).2 (q, x) hqx.1
        have hx1 : 1 ≤ x := hx1
        obtain ⟨e, e1, e2⟩ := memR _ hm
        have eT : T = tl σ e.2.2 := congrArg (·.2) e2
        have hqe := hqx.1
        rw [eT] at hqe
        obtain ⟨_, _, q3, q4⟩ := (hE e e1).2 (q, x) hqe
        have q3 : (x - 1) % 8 < 4 := q3
        have q4 : x < 2147483647 := q4
        have q5 : (x - 1) / 8 = 0 → x ≤ σ 68 f := h3 e e1 (q, x) hqe
        refine ⟨Or.inr (by rw [hct.2.2.1]; exact ⟨hx1, q4⟩), Or.inr (Or.inr ⟨?_, ?_⟩)⟩
        · rw [hct.1]
          unfold ndo
          split
          · decide
          · split
            · decide
            · split <;> decide
        · rw [hct.2.2.1, e68]
          by_cases z : (x - 1) / 8 = 0
          · exact Or.inl ⟨hx1, q5 z⟩
          · have ha := hqx.2
            unfold ask at ha
            rw [Bool.and_eq_true, Bool.or_eq_true] at ha
            rcases ha.2 with y | y
            · exact absurd (of_decide_eq_true y) z
            · refine Or.inr ⟨by omega, by omega, ?_⟩
              rw [show x / 8 = (x - 1) / 8 by omega]
              refine zPL_kn h8 h33 hS 9 _ (by omega) ?_ (fun t => by rw [t] at y; cases y)
              have : (3 : Int) * 8 ^ 9 = 402653184 := by decide
              omega
end ZTN
