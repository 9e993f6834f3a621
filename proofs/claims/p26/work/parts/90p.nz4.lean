section NZS
variable {n m : Nat} {t : Int → Int}
theorem nz_fun {i j nf : Nat} {σ σ2 : e3_H} (h : a_fun t n i σ = .inr (j, σ2)) (hF : F_inv σ m nf) (hs : σ 40 16 ≤ (i : Int)) (hW : NZ σ nf) : NZ σ2 (nf + 1) := by
  obtain ⟨r1, _, r3⟩ := a_fun_fr h hF hs
  intro g g0 g1
  by_cases hg : g = nf
  · rw [hg]
    obtain ⟨h1, h2, h3, h4, h5⟩ := hF
    unfold a_fun at h
    split at h
    · cases h
    split at h
    · cases h
    rename_i hnf
    split at h
    · cases h
    rename_i h12
    split at h
    · cases h
    rw [h1] at h h12
    obtain ⟨n1, n2, n3, n4, n5, n6, n7, n8⟩ := F_new (v := x_wo t n i) h1 h5 h4
    unfold a_fun2 at h
    split at h
    · cases h
    rename_i j1 σ1 hc
    obtain ⟨c1, c2, c3, c4⟩ := a_cls_ok _ _ _ _ _ hc n5.1 n1
    split at h
    · have e70 : σ1 70 nf = 0 := by rw [c4 70 _ (by omega) (by omega)]; exact n3
      have pw1 : p_w σ1 m := by
        have e : ∀ a : Int, a ≠ 68 → a ≠ 69 → σ1 a = a_fnew σ nf (x_wo t n i) a := fun a y1 y2 => funext fun k => c4 a k (by omega) (by omega)
        obtain ⟨q1, q2, q3⟩ := n5
        refine ⟨k_inv_congr q1 (by rw [e 40 (by omega) (by omega)]) (e 42 (by omega) (by omega)) (e 43 (by omega) (by omega)) (e 44 (by omega) (by omega)) (e 45 (by omega) (by omega)), ?_⟩
        rw [e 40 (by omega) (by omega), e 55 (by omega) (by omega)]
        exact ⟨q2, q3⟩
      have e16 : σ1 40 16 = σ 40 16 := by rw [c4 40 16 (by omega) (by omega)]; exact n6
      exact nz_rules (m := m) (f := nf) (by omega) _ _ _ _ _ h pw1 (by rw [e16]; omega) ⟨c2, c3, by rw [e70]; omega, fun k k0 hk => by rw [e70] at hk; omega⟩ (fun g g0 g1 => F_one_fr (n4 g g0 g1) (fun a k hk => c4 a k (by omega) (by omega))) (fun k k0 hk => by rw [e70] at hk; omega)
    · cases h
  · have hF1 := hF.2.2.2.1 g g0 (by omega)
    have h70 := hF1.2.2.1
    intro k k0 hk
    rw [r3 g g0 (by omega) 70 g (Or.inl ⟨by omega, rfl⟩)] at hk
    have hj := (hF1.2.2.2 k k0 hk).2.1
    have ek : (k.toNat : Int) = k := Int.toNat_of_nonneg k0
    refine nz_keep (hW g g0 (by omega) k k0 hk) (r3 g g0 (by omega) 56 _ (Or.inr (Or.inr (Or.inr ⟨k.toNat, by omega, ?_⟩)))) (by omega) (fun x x0 x1 => r3 g g0 (by omega) 57 _ (Or.inr (Or.inr (Or.inr ⟨k.toNat, by omega, ?_⟩))))
    · rw [ek]; unfold r_own; omega
    · rw [ek]; unfold r_own; omega
theorem nz_funs : ∀ (g i nf : Nat) (σ : e3_H) (j : Nat) (σ2 : e3_H), a_funs t n g i σ = .inr (j, σ2) → F_inv σ m nf → σ 40 16 ≤ (i : Int) → NZ σ nf → ∃ nf2, F_inv σ2 m nf2 ∧ NZ σ2 nf2 := by
  intro g
  induction g with
  | zero => intro i nf σ j σ2 h; cases h
  | succ g ih =>
    intro i nf σ j σ2 h hF hs hW
    unfold a_funs at h
    split at h
    · split at h
      · cases h
      · rename_i j1 σ1 h1
        obtain ⟨c1, c2, c3⟩ := a_fun_ok h1 hF (by omega)
        exact ih j1 (nf + 1) σ1 j σ2 h c1 c2 (nz_fun h1 hF (by omega) hW)
    · split at h
      · cases h; exact ⟨nf, hF, hW⟩
      · cases h
theorem nz_judge {nf : Nat} {σ σ2 : e3_H} (h : a_judge σ = .inr σ2) (hF : F_inv σ m nf) (hW : NZ σ nf) : NZ σ2 nf := by
  obtain ⟨c1, c2⟩ := a_judge_ok h hF
  intro f f0 f1 k k0 hk
  rw [c2 70 f (by decide) (by decide)] at hk
  exact nz_eq (hW f f0 f1 k k0 hk) (funext fun y => c2 56 y (by decide) (by decide)) (funext fun y => c2 57 y (by decide) (by decide))
theorem W_keep {nf : Nat} {σ σ2 : e3_H} (c2 : ∀ a x : Int, a ≠ 71 → a ≠ 80 → σ2 a x = σ a x) (h : WF σ nf ∧ NZ σ nf) : WF σ2 nf ∧ NZ σ2 nf := by
  refine ⟨fun f f0 f1 => ?_, fun f f0 f1 k k0 hk => ?_⟩
  · exact WF1_keep (h.1 f f0 f1) (by rw [c2 40 16 (by decide) (by decide)]; exact Int.le_refl _) (c2 _ _ (by decide) (by decide)) (c2 _ _ (by decide) (by decide)) (fun a x ha _ => c2 a x (by omega) (by omega)) ⟨fun x => c2 44 x (by decide) (by decide), fun x => c2 45 x (by decide) (by decide), c2 40 10 (by decide) (by decide)⟩ (fun k i _ _ _ => c2 69 _ (by decide) (by decide)) (fun k _ _ => ⟨c2 _ _ (by decide) (by decide), c2 _ _ (by decide) (by decide)⟩)
  · rw [c2 70 f (by decide) (by decide)] at hk
    exact nz_eq (h.2 f f0 f1 k k0 hk) (funext fun y => c2 56 y (by decide) (by decide)) (funext fun y => c2 57 y (by decide) (by decide))
/-- all FUNCTIONS that were read have trees and NAMES -/
theorem funs_W {g i j nf : Nat} {σ σ2 : e3_H} (h : a_funs t n g i σ = .inr (j, σ2)) (hF : F_inv σ m 0) (h16 : σ 40 16 ≤ (i : Int)) (hF2 : F_inv σ2 m nf) : WF σ2 nf ∧ NZ σ2 nf := by
  obtain ⟨n1, f1, w1⟩ := wt_funs g i 0 σ j σ2 h hF h16 (fun f f0 f1 => by omega)
  obtain ⟨n2, f2, w2⟩ := nz_funs g i 0 σ j σ2 h hF h16 (fun f f0 f1 => by omega)
  have e1 : n1 = nf := by have := f1.1; have := hF2.1; omega
  have e2 : n2 = nf := by have := f2.1; have := hF2.1; omega
  rw [e1] at w1
  rw [e2] at w2
  exact ⟨w1, w2⟩
end NZS
