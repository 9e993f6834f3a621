/-- a tree of the reference by paths: what hangs where, with its label -/
def TRP (σ : e3_H) (m : Nat) (R : a_RW) (way b : Int) (N : List a_ND) (H : e3_H) : Prop := ∃ D : List a_PT, D.length = N.length ∧ (∃ k : Nat, gr σ m R way k [] N) ∧ (∀ (j : Nat) (π : a_PT), D[j]? = some π → (j = 0 → π = []) ∧ ((π = [] ∧ H 107 (b + (j : Int)) = -4) ∨ ∃ (i : Nat) (π' : a_PT) (x : Nat) (v : (Int × Int × Int) × (Int × Int × Int × Int)), i < j ∧ H 107 (b + (j : Int)) = b + (i : Int) ∧ D[i]? = some π' ∧ (kds σ m R way π')[x]? = some v ∧ π = v.1 :: π')) ∧ ∀ (j : Nat) (π : a_PT), D[j]? = some π → ∃ d : a_ND, N[j]? = some d ∧ SP σ m R π ∧ (∃ (k : Nat) (N' X : List a_ND), gr σ m R way k π (d :: N') ∧ N.drop j = (d :: N') ++ X) ∧ ∀ (x : Nat) (v : (Int × Int × Int) × (Int × Int × Int × Int)), (kds σ m R way π)[x]? = some v → ∃ c : Nat, (chl N d.2.2.2.1.toNat (j + 1))[x]? = some c ∧ D[c]? = some (v.1 :: π) ∧ (v.1.1 ≠ 0 → lb4 H (b + (c : Int)) = v.2) ∧ H 107 (b + (c : Int)) = b + (j : Int)
section TRPS
variable {σ K : e3_H} {m : Nat} {f way b : Int} {RL : List (Int × Int × List (Int × Int))}
theorem TRP_of {D : List (a_PT × Int)} {N : List a_ND} {k0 : Nat} (hg0 : gr σ m (rwl σ RL) way k0 [] N) (hF : SFT σ m f RL) (hT : TRM σ m (rwl σ RL) way b D K) (hZ : ZDN σ m (rwl σ RL) way b N D [] []) (hD : D.length = N.length) : TRP σ m (rwl σ RL) way b N K := by
  have root : ∀ (π : a_PT) (par : Int), D[0]? = some (π, par) → π = [] ∧ par = -4 := fun π par h => by
    rcases (hT.1 0 π par h).2 with ⟨y1, y2⟩ | ⟨e, π', i, pp, y1, y2, _⟩
    · exact ⟨y1, y2⟩
    · omega
  have getD : ∀ (j : Nat) (π : a_PT), (D.map (fun d => d.1))[j]? = some π → ∃ par, D[j]? = some (π, par) := fun j π h => by
    rw [List.getElem?_map] at h
    cases hz : D[j]? with
    | none => rw [hz] at h; cases h
    | some d0 =>
      obtain ⟨π0, p0⟩ := d0
      rw [hz] at h
      have h : some π0 = some π := h
      cases h
      exact ⟨p0, rfl⟩
  refine ⟨D.map (fun d => d.1), by rw [List.length_map]; exact hD, ⟨k0, hg0⟩, fun j π h0 => ?_, fun j π hj => ?_⟩
  · obtain ⟨par, h⟩ := getD j π h0
    obtain ⟨l1, l2⟩ := hT.1 j π par h
    refine ⟨fun z => by subst z; exact (root π par h).1, ?_⟩
    rcases l2 with ⟨y1, y2⟩ | ⟨e, π', i, pp, y1, y2, y3, y4, _⟩
    · exact Or.inl ⟨y1, by rw [l1]; exact y2⟩
    · obtain ⟨_, _, _, zc⟩ := hZ.2.1 j π par h
      obtain ⟨di, πi, pi, x', v', q1, q2, q3, q4, q5⟩ := zc i y3
      exact Or.inr ⟨i, πi, x', v', y2, by rw [l1]; exact y3, by rw [List.getElem?_map, q2]; rfl, q4, q5⟩
  · obtain ⟨par, hDj⟩ := getD j π hj
    obtain ⟨d, nj, hgr, _⟩ := hZ.2.1 j π par hDj
    have hS := SP_D hF hT.1 (j + 1) j π par (by omega) hDj
    refine ⟨d, nj, hS, hgr, fun x v hv => ?_⟩
    obtain ⟨k, N', X, hg, _⟩ := hgr
    obtain ⟨g1, g2⟩ := gr_hd hg
    obtain ⟨hkid, hlt⟩ := kid_of hT hZ hD hDj nj
    have hxl := (List.getElem?_eq_some_iff.mp hv).1
    have hcl : x < (chl N d.2.2.2.1.toNat (j + 1)).length := by rw [chl_len]; omega
    obtain ⟨c, hc⟩ : ∃ c, (chl N d.2.2.2.1.toNat (j + 1))[x]? = some c := ⟨_, List.getElem?_eq_getElem hcl⟩
    have hcm := List.mem_of_getElem? hc
    have hcN := hlt c hcm
    obtain ⟨⟨πc, pc⟩, hDc⟩ : ∃ y, D[c]? = some y := ⟨_, List.getElem?_eq_getElem (by omega)⟩
    have hmem : b + (c : Int) ∈ cld b (b + (j : Int)) D 0 := by rw [hkid]; exact List.mem_map.mpr ⟨c, hcm, rfl⟩
    obtain ⟨i, dd, h1, h2, h3⟩ := cld_mem D 0 hmem
    have hic : i = c := by omega
    subst hic
    rw [hDc] at h1
    cases h1
    have h2 : pc = b + (j : Int) := h2
    obtain ⟨_, _, _, zc⟩ := hZ.2.1 i πc pc hDc
    obtain ⟨di, πi, pi, x', v', q1, q2, q3, q4, q5⟩ := zc j h2
    rw [nj] at q1
    cases q1
    rw [hDj] at q2
    cases q2
    have hp : (chl N d.2.2.2.1.toNat (j + 1)).Pairwise (fun (a c : Nat) => b + (a : Int) < b + (c : Int)) := by
      have := cld_srt (b := b) (par := b + (j : Int)) D 0
      rw [hkid, List.pairwise_map] at this
      exact this
    have hxx : x' = x := by
      have hx'l := (List.getElem?_eq_some_iff.mp q3).1
      have a1 := (List.getElem?_eq_some_iff.mp q3).2
      have a2 := (List.getElem?_eq_some_iff.mp hc).2
      rw [List.pairwise_iff_getElem] at hp
      rcases Nat.lt_trichotomy x' x with z | z | z
      · have := hp x' x hx'l hcl z
        rw [a1, a2] at this
        omega
      · exact z
      · have := hp x x' hcl hx'l z
        rw [a1, a2] at this
        omega
    subst hxx
    rw [hv] at q4
    cases q4
    refine ⟨i, hc, by rw [List.getElem?_map, hDc, q5]; rfl, fun hne => ?_, (hT.1 i πc pc hDc).1.trans h2⟩
    rcases (hT.1 i πc pc hDc).2 with ⟨y, _⟩ | ⟨e, π', i', pp, y1, y2, y3, y4, y5, y6⟩
    · rw [q5] at y
      cases y
    · rw [q5] at y1
      have e1 : v.1 = e := (List.cons.inj y1).1
      have e2 : π = π' := (List.cons.inj y1).2
      subst e2
      rw [← e1] at y6
      have lq := y6 hne
      unfold kds at hv
      cases hf : fst σ π (rwl σ RL) 0 with
      | none => rw [hf] at hv; cases hv
      | some u =>
        obtain ⟨i0, r, T⟩ := u
        rw [hf] at hv
        simp only at hv
        obtain ⟨j0, _, hgi, hlv, _⟩ := fst_some (rwl σ RL) 0 i0 (r, T) hf
        have hmR := List.mem_of_getElem? hgi
        cases hco : cho σ m (rwl σ RL) π way T 0 none 0 with
        | none =>
          rw [hco] at hv
          simp only at hv
          split at hv
          · cases hv
          · cases x' with
            | zero =>
              have hv : some (((0 : Int), r, r), ((0 : Int), (0 : Int), (0 : Int), (0 : Int))) = some v := hv
              cases hv
              exact absurd rfl hne
            | succ x' => cases hv
        | some p =>
          obtain ⟨q, x0⟩ := p
          rw [hco] at hv
          simp only at hv
          rw [List.getElem?_map] at hv
          cases hu : (lbs σ m (rwl σ RL) π x0 (σ 47 q))[x']? with
          | none => rw [hu] at hv; cases hv
          | some u =>
            rw [hu] at hv
            have hv : some (((x0, u.1, u.2), enc (σ 47 q) u) : (Int × Int × Int) × (Int × Int × Int × Int)) = some v := hv
            cases hv
            have hqx : (q, x0) ∈ T ∧ ask π x0 = true := by
              rcases cho_some T 0 none 0 (q, x0) hco with z | z
              · cases z
              · exact z
            exact lq (σ 47 q) (fun w hw hl q' hq' => SH hF.1 hS hF.2.2.1.2.2.2.1 hF.2.2.2.1 hF.2.2.1.2.1 hqx.2 hw hmR hl hlv hq' hqx.1)
theorem TRP_eq {R : a_RW} {N : List a_ND} {K2 : e3_H} (h : TRP σ m R way b N K) (hn : N.length ≤ 120) (e : ∀ a k : Int, a = 107 ∨ (111 ≤ a ∧ a ≤ 114) → b ≤ k → k < b + 120 → K2 a k = K a k) : TRP σ m R way b N K2 := by
  obtain ⟨D, d1, d0, d2, d3⟩ := h
  refine ⟨D, d1, d0, fun j π h0 => ?_, fun j π hj => ?_⟩
  · have hj := (List.getElem?_eq_some_iff.mp h0).1
    rw [e 107 _ (by decide) (by omega) (by omega)]
    exact d2 j π h0
  · obtain ⟨d, a1, a2, a3, a4⟩ := d3 j π hj
    refine ⟨d, a1, a2, a3, fun x v hv => ?_⟩
    obtain ⟨c, c1, c2, c3, c4⟩ := a4 x v hv
    have hc := (List.getElem?_eq_some_iff.mp c2).1
    refine ⟨c, c1, c2, fun z => ?_, by rw [e 107 _ (by decide) (by omega) (by omega)]; exact c4⟩
    have := c3 z
    unfold lb4 at this ⊢
    rw [e 111 _ (by decide) (by omega) (by omega), e 112 _ (by decide) (by omega) (by omega), e 113 _ (by decide) (by omega) (by omega), e 114 _ (by decide) (by omega) (by omega)]
    exact this
end TRPS
theorem AK_tr {m1 m2 : Nat} {σ σ2 σ3 : e3_H} (h : AK m1 σ σ2) (h2 : AK m2 σ2 σ3) (hm : m1 ≤ m2) : AK m1 σ σ3 := ⟨fun a x ha => (h2.1 a x ha).trans (h.1 a x ha), fun a x a1 a2 x0 x1 => (h2.2.1 a x a1 a2 x0 (by omega)).trans (h.2.1 a x a1 a2 x0 x1), fun x x0 x1 => (h2.2.2.1 x x0 (by omega)).trans (h.2.2.1 x x0 x1), ⟨h2.2.2.2.1.1.trans h.2.2.2.1.1, h2.2.2.2.1.2.trans h.2.2.2.1.2⟩, by have := h2.2.2.2.2; omega⟩
theorem AK_rf {m : Nat} {σ : e3_H} (h : σ 40 10 = (m : Int)) : AK m σ σ := ⟨fun _ _ _ => rfl, fun _ _ _ _ _ _ => rfl, fun _ _ _ => rfl, ⟨rfl, rfl⟩, by rw [h]; exact Int.le_refl _⟩
