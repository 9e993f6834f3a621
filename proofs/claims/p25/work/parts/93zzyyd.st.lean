theorem nB_cg {σ M M2 : e3_H} (hvt : ∀ x : Int, vt M2 x = vt M x) (V : List (Int × Int)) : nB σ M2 V = nB σ M V := by
  have key : ∀ (V : List (Int × Int)) (B : Int → Int), nmf σ M2 V B = nmf σ M V B := by
    intro V
    induction V with
    | nil => intro B; rfl
    | cons p V ih =>
      intro B
      have : nm1 σ M2 p B = nm1 σ M p B := by
        unfold nm1
        rw [hvt]
      show nmf σ M2 V (nm1 σ M2 p B) = nmf σ M V (nm1 σ M p B)
      rw [this]
      exact ih _
  exact key V _
/-- what sorting by a tree comes to, purely -/
theorem wk_ok {σ σt M : e3_H} {m mt : Nat} {f way : Int} {N : List a_ND} {R : a_RW} {RL : List (Int × Int × List (Int × Int))} {D : List a_PT} (hD : TRD σt mt R way N D) (hN : N.length ≤ 120) (hRT : RT σt f R) (hA : AK mt σt σ) (hk : k_inv σt mt) (hKP : KP σt mt) (hX : RLX σ f R RL) (hTV : TV σ m M) (hcol : ∀ i : Int, 0 ≤ i → i < σ 68 f → oks M (M 135 i) (σ 69 (3 * f + i))) : ∀ (k : Nat) (π : a_PT) (j : Nat), D[j]? = some π → (∃ NN, gr σt mt R way k π NN) → PV σt mt R M π → ((wk σt mt R way M (vro RL) k π).2.2.1 : Int) ≤ 120 - (j : Int) ∧ ((wk σt mt R way M (vro RL) k π).2.2.2.length : Int) ≤ 120 - (j : Int) ∧ ((wk σt mt R way M (vro RL) k π).1 = 0 → ∃ (r w : Int) (V : List (Int × Int)), RL[(wk σt mt R way M (vro RL) k π).2.1]? = some (r, w, V) ∧ VQ σ f V ∧ NV1 σ r V ∧ ∀ p, p ∈ V → fitv σ M p.1 (vt M p.2)) := by
  intro k
  induction k with
  | zero => intro π j _ h; obtain ⟨_, h⟩ := h; exact h.elim
  | succ k ih =>
    intro π j hDj hg hPV
    obtain ⟨NN, hg⟩ := hg
    obtain ⟨d, nj, hS, ⟨kk, N', hgr⟩, hkid⟩ := hD j π hDj
    have gl := (gr_hd hgr).1
    have jn := (List.getElem?_eq_some_iff.mp nj).1
    have l0 : (([] : List Int).length : Int) = 0 := rfl
    cases hf : fst σt π R 0 with
    | none =>
      rw [wk_n hf]
      exact ⟨by show ((0 : Nat) : Int) ≤ _; omega, by show (([] : List Int).length : Int) ≤ _; omega, fun z => absurd (show (1 : Int) = 0 from z) (by decide)⟩
    | some u =>
      obtain ⟨i, r, T⟩ := u
      obtain ⟨j0, ej, hgi, hlv, _⟩ := fst_some R 0 i (r, T) hf
      rw [Nat.zero_add] at ej
      subst ej
      obtain ⟨w, V, v1, v2, v3, v4, v5, v6⟩ := hX i r T hgi
      have hmR := List.mem_of_getElem? hgi
      cases hc : cho σt mt R π way T 0 none 0 with
      | none =>
        have hfit := leaf_fit hA hk.2.2.2.1 hPV hmR hlv v2 v3 hc
        have l1 : (([r] : List Int).length : Int) = 1 := rfl
        rw [wk_l hf hc]
        by_cases z : σt 78 r = 0
        · rw [if_pos z]
          exact ⟨by show ((0 : Nat) : Int) ≤ _; omega, by show (([] : List Int).length : Int) ≤ _; omega, fun _ => ⟨r, w, V, v1, v3, v4, hfit⟩⟩
        · rw [if_neg z]
          by_cases u1 : gdv σt (tvp σt M (nB σt M (vro RL i))) r = 1
          · rw [if_pos u1]
            exact ⟨by show ((0 : Nat) : Int) ≤ _; omega, by show (([r] : List Int).length : Int) ≤ _; omega, fun _ => ⟨r, w, V, v1, v3, v4, hfit⟩⟩
          · rw [if_neg u1]
            by_cases u2 : gdv σt (tvp σt M (nB σt M (vro RL i))) r = 2
            · rw [if_pos u2]
              exact ⟨by show ((0 : Nat) : Int) ≤ _; omega, by show (([r] : List Int).length : Int) ≤ _; omega, fun z => absurd (show (3 : Int) = 0 from z) (by decide)⟩
            · rw [if_neg u2]
              have hkd := kds_l hf hc z
              have hv : (kds σt mt R way π)[0]? = some ((0, r, r), (0, 0, 0, 0)) := by rw [hkd]; rfl
              obtain ⟨c, w1, w2⟩ := hkid 0 _ hv
              have cj := chl_ge N _ _ c (List.mem_of_getElem? w1)
              obtain ⟨i1, i2, i3⟩ := ih ((0, r, r) :: π) c w2 (gr_kid hg _ (List.mem_of_getElem? hv)) (PV_gd hRT hPV)
              refine ⟨?_, ?_, i3⟩
              · show ((wk σt mt R way M (vro RL) k ((0, r, r) :: π)).2.2.1 : Int) ≤ _
                omega
              · show ((r :: (wk σt mt R way M (vro RL) k ((0, r, r) :: π)).2.2.2).length : Int) ≤ _
                rw [List.length_cons]
                omega
      | some p =>
        obtain ⟨q, x⟩ := p
        have hqx : (q, x) ∈ T ∧ ask π x = true := by
          rcases cho_some T 0 none 0 (q, x) hc with z | z
          · cases z
          · exact z
        obtain ⟨t1, t2, t3, t4⟩ := test_at hA hk.2.2.2.1 hPV hmR hlv v2 v3 hTV hcol hS hqx.1 hqx.2
        cases hn : fnd (σt 47 q) (M 28 (vt M x)) (lbs σt mt R π x (σt 47 q)) 0 with
        | none =>
          rw [wk_t0 hf hc hn]
          exact ⟨by show ((1 : Nat) : Int) ≤ _; omega, by show (([] : List Int).length : Int) ≤ _; omega, fun z => absurd (show (2 : Int) = 0 from z) (by decide)⟩
        | some ie =>
          obtain ⟨i', e⟩ := ie
          rw [wk_t1 hf hc hn]
          obtain ⟨i2, i3, he, hb⟩ := fnd_at _ 0 i' e hn
          have hkd := kds_t hf hc
          have hv : (kds σt mt R way π)[i2]? = some ((x, e.1, e.2), enc (σt 47 q) e) := by rw [hkd, List.getElem?_map, he]; rfl
          obtain ⟨c, w1, w2⟩ := hkid i2 _ hv
          have cj := chl_ge N _ _ c (List.mem_of_getElem? w1)
          obtain ⟨i1, i4, i5⟩ := ih ((x, e.1, e.2) :: π) c w2 (gr_kid hg _ (List.mem_of_getElem? hv)) (PV_st hk.2.1 hRT hPV (List.mem_of_getElem? he) (fun w' hw' hl' q' hq' => SH hRT hS hk.2.2.2.1 hKP hk.2.1 hqx.2 hw' hmR hl' hlv hq' hqx.1) t3 hb (fun z => by
            have hfe' := hn
            rw [z] at hfe'
            unfold lbs at hfe'
            rw [if_pos rfl] at hfe'
            have s0 : σ 47 q = 0 := (hA.1 47 q (by decide)).trans z
            have w27 := (oks_wh hTV t1).1 (by omega)
            exact fnd_pts _ _ 0 i' e ((hTV.1.2 _ t1.1.1 t1.1.2).2.1 (by omega)).2.2.1 hfe'))
          refine ⟨?_, ?_, i5⟩
          · show (((wk σt mt R way M (vro RL) k ((x, e.1, e.2) :: π)).2.2.1 + 1 : Nat) : Int) ≤ _
            omega
          · show ((wk σt mt R way M (vro RL) k ((x, e.1, e.2) :: π)).2.2.2.length : Int) ≤ _
            omega
/-- a memory with another letter -/
def mwl (H : e3_H) (a : Int → Int) : e3_H := fun b k => if b = 135 then a k else H b k
theorem mwl_ne {H : e3_H} {a : Int → Int} {b k : Int} (h : b ≠ 135) : mwl H a b k = H b k := if_neg h
theorem mwl_135 (H : e3_H) (a : Int → Int) (k : Int) : mwl H a 135 k = a k := if_pos rfl
theorem oks_eq {H K : e3_H} {v s : Int} (h : oks H v s) (e : ∀ a k : Int, a = 26 ∨ a = 27 ∨ a = 28 ∨ a = 43 → K a k = H a k) : oks K v s := by
  obtain ⟨⟨h1, h2⟩, h3⟩ := h
  refine ⟨⟨h1, by rw [e 26 1 (by decide)]; exact h2⟩, ?_⟩
  unfold sOf at h3 ⊢
  rw [e 27 _ (by decide), e 28 _ (by decide), show K 43 = H 43 from funext fun k => e 43 k (by decide)]
  exact h3
def rro (RL : List (Int × Int × List (Int × Int))) (i : Nat) : Int := match RL[i]? with
  | some e => e.1
  | none => 0
theorem rro_at {RL : List (Int × Int × List (Int × Int))} {i : Nat} {r w : Int} {V : List (Int × Int)} (h : RL[i]? = some (r, w, V)) : rro RL i = r := by
  unfold rro
  rw [h]
/-- one letter at one FUNCTION, by the tree -/
def STo (σ M : e3_H) (f : Int) (RL : List (Int × Int × List (Int × Int))) (o : Int × Nat × Nat × List Int) : a_SO := (o.1, rro RL o.2.1, o.2.2.1, o.2.2.2.map (fun r => 100 * f + r % 16), nB σ M (vro RL o.2.1))
/-- the trees of a text -/
def TRX (σ : e3_H) (nf : Nat) (Vs : Int → Int → Int → List (Int × Int)) (mr0 : Nat → Nat) (way : Nat → Int) (N : Nat → List a_ND) (σt : Nat → e3_H) (mt kk : Nat → Nat) (D : Nat → List a_PT) (H : e3_H) : Prop := ∀ f : Nat, f < nf → (N f).length ≤ 120 ∧ AK (mt f) (σt f) σ ∧ PXc (σt f) (mt f) nf Vs mr0 ∧ (D f)[0]? = some [] ∧ (∃ NN, gr (σt f) (mt f) (RR σ f (Vs f) false (mr0 f)) (way f) (kk f) [] NN) ∧ ∀ (j : Nat) (π : a_PT), (D f)[j]? = some π → ∃ d : a_ND, (N f)[j]? = some d ∧ SP (σt f) (mt f) (RR σ f (Vs f) false (mr0 f)) π ∧ (∃ (k : Nat) (N' X : List a_ND), gr (σt f) (mt f) (RR σ f (Vs f) false (mr0 f)) (way f) k π (d :: N') ∧ (N f).drop j = (d :: N') ++ X) ∧ ∀ (x : Nat) (v : (Int × Int × Int) × (Int × Int × Int × Int)), (kds (σt f) (mt f) (RR σ f (Vs f) false (mr0 f)) (way f) π)[x]? = some v → ∃ c : Nat, (chl (N f) d.2.2.2.1.toNat (j + 1))[x]? = some c ∧ (D f)[c]? = some (v.1 :: π) ∧ (v.1.1 ≠ 0 → lb4 H (300 * (f : Int) + (c : Int)) = v.2) ∧ H 107 (300 * (f : Int) + (c : Int)) = 300 * (f : Int) + (j : Int)
theorem TRX_of {σ H : e3_H} {nf : Nat} {Vs : Int → Int → Int → List (Int × Int)} {mr0 : Nat → Nat} {way km : Nat → Int} {N : Nat → List a_ND} (h : TRS σ nf Vs mr0 way km N H) : ∃ (σt : Nat → e3_H) (mt kk : Nat → Nat) (D : Nat → List a_PT), TRX σ nf Vs mr0 way N σt mt kk D H := by
  have key : ∀ f : Nat, ∃ y : e3_H × Nat × Nat × List a_PT, f < nf → (N f).length ≤ 120 ∧ AK y.2.1 y.1 σ ∧ PXc y.1 y.2.1 nf Vs mr0 ∧ y.2.2.2[0]? = some [] ∧ (∃ NN, gr y.1 y.2.1 (RR σ f (Vs f) false (mr0 f)) (way f) y.2.2.1 [] NN) ∧ ∀ (j : Nat) (π : a_PT), y.2.2.2[j]? = some π → ∃ d : a_ND, (N f)[j]? = some d ∧ SP y.1 y.2.1 (RR σ f (Vs f) false (mr0 f)) π ∧ (∃ (k : Nat) (N' X : List a_ND), gr y.1 y.2.1 (RR σ f (Vs f) false (mr0 f)) (way f) k π (d :: N') ∧ (N f).drop j = (d :: N') ++ X) ∧ ∀ (x : Nat) (v : (Int × Int × Int) × (Int × Int × Int × Int)), (kds y.1 y.2.1 (RR σ f (Vs f) false (mr0 f)) (way f) π)[x]? = some v → ∃ c : Nat, (chl (N f) d.2.2.2.1.toNat (j + 1))[x]? = some c ∧ y.2.2.2[c]? = some (v.1 :: π) ∧ (v.1.1 ≠ 0 → lb4 H (300 * (f : Int) + (c : Int)) = v.2) ∧ H 107 (300 * (f : Int) + (c : Int)) = 300 * (f : Int) + (j : Int) := fun f => by
    by_cases hf : f < nf
    · obtain ⟨⟨_, _, _, hn⟩, _, σt, mt, ⟨hA, hP, _⟩, D, d1, ⟨k, d0⟩, d2, d3⟩ := h.2 f hf
      rw [← RR_AK hA] at d0 d2 d3
      refine ⟨(σt, mt, k, D), fun _ => ⟨hn, hA, hP, ?_, ⟨N f, d0⟩, d3⟩⟩
      have hl := gr_len _ _ _ d0
      obtain ⟨π, hπ⟩ : ∃ π, D[0]? = some π := ⟨_, List.getElem?_eq_getElem (by omega)⟩
      have := (d2 0 π hπ).1 rfl
      show D[0]? = some []
      rw [hπ, this]
    · exact ⟨(σ, 0, 0, []), fun z => absurd z hf⟩
  refine ⟨fun f => (Classical.choose (key f)).1, fun f => (Classical.choose (key f)).2.1, fun f => (Classical.choose (key f)).2.2.1, fun f => (Classical.choose (key f)).2.2.2, fun f hf => Classical.choose_spec (key f) hf⟩
theorem TRX_eq {σ H K : e3_H} {nf : Nat} {Vs : Int → Int → Int → List (Int × Int)} {mr0 : Nat → Nat} {way : Nat → Int} {N : Nat → List a_ND} {σt : Nat → e3_H} {mt kk : Nat → Nat} {D : Nat → List a_PT} (h : TRX σ nf Vs mr0 way N σt mt kk D H) (e : ∀ a k : Int, a = 107 ∨ (111 ≤ a ∧ a ≤ 114) → K a k = H a k) : TRX σ nf Vs mr0 way N σt mt kk D K := fun f hf => by
  obtain ⟨h1, h2, h3, h4, h5, h6⟩ := h f hf
  refine ⟨h1, h2, h3, h4, h5, fun j π hj => ?_⟩
  obtain ⟨d, a1, a2, a3, a4⟩ := h6 j π hj
  refine ⟨d, a1, a2, a3, fun x v hv => ?_⟩
  obtain ⟨c, c1, c2, c3, c4⟩ := a4 x v hv
  refine ⟨c, c1, c2, fun z => ?_, by rw [e 107 _ (by decide)]; exact c4⟩
  have := c3 z
  unfold lb4 at this ⊢
  rw [e 111 _ (by decide), e 112 _ (by decide), e 113 _ (by decide), e 114 _ (by decide)]
  exact this
