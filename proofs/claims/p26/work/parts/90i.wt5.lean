/-- the rules of a FUNCTION have trees -/
def WF1 (σ : e3_H) (f : Int) : Prop := ∀ k : Int, 0 ≤ k → k < σ 70 f → ∃ lo, 0 ≤ lo ∧ wru σ (16 * f + k) lo (σ 40 16) (σ 68 f).toNat
def WF (σ : e3_H) (nf : Nat) : Prop := ∀ f : Int, 0 ≤ f → f < nf → WF1 σ f
theorem WF1_keep {σ σ2 : e3_H} {f : Int} (h : WF1 σ f) (h16 : σ 40 16 ≤ σ2 40 16) (e70 : σ2 70 f = σ 70 f) (e68 : σ2 68 f = σ 68 f) (e : ∀ a x : Int, (46 ≤ a ∧ a ≤ 52) ∨ a = 55 → x < σ 40 16 → σ2 a x = σ a x) (ek : e_k σ σ2) (e69 : ∀ (k : Int) (i : Nat), 0 ≤ k → k < σ 70 f → i < (σ 68 f).toNat → σ2 69 (3 * ((16 * f + k) / 16) + i) = σ 69 (3 * ((16 * f + k) / 16) + i)) (e72 : ∀ k : Int, 0 ≤ k → k < σ 70 f → σ2 72 (16 * f + k) = σ 72 (16 * f + k) ∧ σ2 74 (16 * f + k) = σ 74 (16 * f + k)) : WF1 σ2 f := by
  intro k k0 hk
  rw [e70] at hk
  obtain ⟨lo, l0, hl⟩ := h k k0 hk
  rw [e68]
  exact ⟨lo, l0, wru_keep hl (fun a x ha _ hx => e a x ha hx) ek (fun i hi => e69 k i k0 hk hi) (e72 k k0 hk).1 (e72 k k0 hk).2 h16⟩
section WTS
variable {n m : Nat} {t : Int → Int}
theorem wt_rule {f : Int} {i j : Nat} {σ σ2 : e3_H} (h : a_rule t n f i σ = .inr (j, σ2)) (hp : p_w σ m) (hs : σ 40 16 ≤ (i : Int)) (hf : 0 ≤ f ∧ f < 12) (hc : c_ok σ m f) (h1 : 1 ≤ σ 68 f) (h70 : 0 ≤ σ 70 f ∧ σ 70 f < 16) : wru σ2 (16 * f + σ 70 f) (σ 40 16) (σ2 40 16) (σ 68 f).toNat := by
  unfold a_rule at h
  have er : a_rno f σ = 16 * f + σ 70 f := by unfold a_rno; rw [if_neg (by omega)]
  rw [er] at h
  have hrf : (16 * f + σ 70 f) / 16 = f := by omega
  generalize hr : 16 * f + σ 70 f = r at *
  have p0 : p_inv (a_rule0 t n r i σ) m i := p_rule0 hp hs (by omega)
  have z27 : a_rule0 t n r i σ 40 27 = r := by unfold a_rule0; simp (disch := omega) only [e3_up_self, e3_up_ne]
  have z74 : a_rule0 t n r i σ 74 r = 1 := by unfold a_rule0; simp (disch := omega) only [e3_up_self, e3_up_ne]
  have z16 : a_rule0 t n r i σ 40 16 = σ 40 16 := by unfold a_rule0; simp (disch := omega) only [e3_up_self, e3_up_ne]
  have z69 : ∀ x, a_rule0 t n r i σ 69 x = σ 69 x := by intro x; unfold a_rule0; simp (disch := omega) only [e3_up_self, e3_up_ne]
  have hp0 := hp.2.1
  split at h
  · cases h
  · rename_i j1 σ1 h1'
    obtain ⟨last2, hC⟩ := wt_cols (r := r) (lo := σ 40 16) _ _ _ _ _ _ _ h1' p0 (by rw [z16]; exact hs) z27 (by rw [z74]; omega) (by rw [z16]; omega) (fun z => absurd rfl z) hrf (fun k hk => by rw [z69]; exact (hc.2 k (by omega)).1) (Or.inl ⟨rfl, z74⟩)
    rw [Nat.zero_add] at hC
    have hW := wC_end hC (by omega)
    split at h
    · cases h
    · split at h
      · cases h
      · rename_i j2 σ3 h3
        have g1 := g_guard h3
        split at h
        · split at h
          · cases h
          · rename_i j4 σ4 h4
            have g2 := (g_answer h4).1
            split at h
            · cases h
              have e : ∀ a x : Int, a < 75 → a ≠ 70 → (e3_up σ4 70 f (σ4 70 f + 1)) a x = σ1 a x := fun a x ha hb => by
                rw [e3_up_ne (ne_1 hb), g2 a x (Or.inl ha), g1 a x (Or.inl ha)]
              rw [e 40 16 (by decide) (by decide)]
              exact wru_keep hW (fun a x ha _ _ => e a x (by omega) (by omega)) ⟨fun x => e 44 x (by decide) (by decide), fun x => e 45 x (by decide) (by decide), e 40 10 (by decide) (by decide)⟩ (fun i _ => e 69 _ (by decide) (by decide)) (e 72 r (by decide) (by decide)) (e 74 r (by decide) (by decide)) (Int.le_refl _)
            · cases h
        · cases h
theorem wt_rules {f : Int} (hf : 0 ≤ f ∧ f < 12) : ∀ (g i : Nat) (σ : e3_H) (j : Nat) (σ2 : e3_H), a_rules t n f g i σ = .inr (j, σ2) → p_w σ m → σ 40 16 ≤ (i : Int) → F_one σ m f → F_lt σ m f → WF1 σ f → WF1 σ2 f := by
  intro g
  induction g with
  | zero => intro i σ j σ2 h; cases h
  | succ g ih =>
    intro i σ j σ2 h hp hs hF hL hW
    unfold a_rules at h
    split at h
    · cases h; exact hW
    · split at h
      · cases h
      · rename_i j1 σ1 h1
        obtain ⟨c1, c2, c3, c4, c5, c6⟩ := F_rule h1 hp hs hf hF hL
        obtain ⟨b1, b2, b3, b4, b5, b6, b7, b8⟩ := a_rule_ok h1 hp hs hf hF.1 hF.2.1 hF.2.2.1
        have h70 := hF.2.2.1
        have hp0 := hp.2.1
        have e68 : σ1 68 f = σ 68 f := b7 68 f (by unfold h_own; omega) (by omega)
        refine ih j1 σ1 j σ2 h c3 c4 c1 c2 (fun k k0 hk => ?_)
        rw [b5] at hk
        rw [e68]
        by_cases hz : k = σ 70 f
        · rw [hz]
          exact ⟨σ 40 16, hp0, wt_rule h1 hp hs hf hF.1 hF.2.1 ⟨h70.1, b2⟩⟩
        · obtain ⟨lo, l0, hl⟩ := hW k k0 (by omega)
          exact ⟨lo, l0, wru_keep hl (fun a x ha _ hx => b7 a x (by unfold h_own; omega) (by omega)) ⟨fun x => b7 44 x (by unfold h_own; omega) (by omega), fun x => b7 45 x (by unfold h_own; omega) (by omega), b7 40 10 (by unfold h_own; omega) (by omega)⟩ (fun i _ => b7 69 _ (by unfold h_own; omega) (by omega)) (b7 _ _ (by unfold h_own; omega) (by omega)) (b7 _ _ (by unfold h_own; omega) (by omega)) b6⟩
theorem wt_fun {i j nf : Nat} {σ σ2 : e3_H} (h : a_fun t n i σ = .inr (j, σ2)) (hF : F_inv σ m nf) (hs : σ 40 16 ≤ (i : Int)) (hW : WF σ nf) : WF σ2 (nf + 1) := by
  obtain ⟨r1, r2, r3⟩ := a_fun_fr h hF hs
  intro g g0 g1
  by_cases hg : g = nf
  · rw [hg]
    obtain ⟨h1, h2, h3, h4, h5⟩ := hF
    unfold a_fun at h
    split at h
    · cases h
    split at h
    · cases h
    rename_i hnf
    split at h
    · cases h
    rename_i h12
    split at h
    · cases h
    rw [h1] at h h12
    obtain ⟨n1, n2, n3, n4, n5, n6, n7, n8⟩ := F_new (v := x_wo t n i) h1 h5 h4
    unfold a_fun2 at h
    split at h
    · cases h
    rename_i j1 σ1 hc
    obtain ⟨c1, c2, c3, c4⟩ := a_cls_ok _ _ _ _ _ hc n5.1 n1
    split at h
    · have e70 : σ1 70 nf = 0 := by rw [c4 70 _ (by omega) (by omega)]; exact n3
      have pw1 : p_w σ1 m := by
        have e : ∀ a : Int, a ≠ 68 → a ≠ 69 → σ1 a = a_fnew σ nf (x_wo t n i) a := fun a y1 y2 => funext fun k => c4 a k (by omega) (by omega)
        obtain ⟨q1, q2, q3⟩ := n5
        refine ⟨k_inv_congr q1 (by rw [e 40 (by omega) (by omega)]) (e 42 (by omega) (by omega)) (e 43 (by omega) (by omega)) (e 44 (by omega) (by omega)) (e 45 (by omega) (by omega)), ?_⟩
        rw [e 40 (by omega) (by omega), e 55 (by omega) (by omega)]
        exact ⟨q2, q3⟩
      have e16 : σ1 40 16 = σ 40 16 := by rw [c4 40 16 (by omega) (by omega)]; exact n6
      exact wt_rules (m := m) (f := nf) (by omega) _ _ _ _ _ h pw1 (by rw [e16]; omega) ⟨c2, c3, by rw [e70]; omega, fun k k0 hk => by rw [e70] at hk; omega⟩ (fun g g0 g1 => F_one_fr (n4 g g0 g1) (fun a k hk => c4 a k (by omega) (by omega))) (fun k k0 hk => by rw [e70] at hk; omega)
    · cases h
  · have h70 := (hF.2.2.2.1 g g0 (by omega)).2.2.1
    have h68 := (hF.2.2.2.1 g g0 (by omega)).1.1
    have e10 : σ2 40 10 = σ 40 10 := by rw [hF.2.2.2.2.1.1, (a_fun_ok h hF hs).1.2.2.2.2.1.1]
    refine WF1_keep (hW g g0 (by omega)) r1 (r3 g g0 (by omega) 70 g (Or.inl ⟨by omega, rfl⟩)) (r3 g g0 (by omega) 68 g (Or.inl ⟨by omega, rfl⟩)) (fun a x ha hx => r3 g g0 (by omega) a x (Or.inr (Or.inr (Or.inl ⟨by omega, by omega, hx⟩)))) ⟨fun x => by rw [r2 44 (by omega) (by omega)], fun x => by rw [r2 45 (by omega) (by omega)], e10⟩ (fun k i k0 hk hi => r3 g g0 (by omega) 69 _ (Or.inr (Or.inl ⟨rfl, by omega, by omega⟩))) (fun k k0 hk => ?_)
    have ek : (k.toNat : Int) = k := Int.toNat_of_nonneg k0
    refine ⟨r3 g g0 (by omega) 72 _ (Or.inr (Or.inr (Or.inr ⟨k.toNat, by omega, ?_⟩))), r3 g g0 (by omega) 74 _ (Or.inr (Or.inr (Or.inr ⟨k.toNat, by omega, ?_⟩)))⟩
    · rw [ek]; unfold r_own; omega
    · rw [ek]; unfold r_own; omega
theorem wt_funs : ∀ (g i nf : Nat) (σ : e3_H) (j : Nat) (σ2 : e3_H), a_funs t n g i σ = .inr (j, σ2) → F_inv σ m nf → σ 40 16 ≤ (i : Int) → WF σ nf → ∃ nf2, F_inv σ2 m nf2 ∧ WF σ2 nf2 := by
  intro g
  induction g with
  | zero => intro i nf σ j σ2 h; cases h
  | succ g ih =>
    intro i nf σ j σ2 h hF hs hW
    unfold a_funs at h
    split at h
    · split at h
      · cases h
      · rename_i j1 σ1 h1
        obtain ⟨c1, c2, c3⟩ := a_fun_ok h1 hF (by omega)
        exact ih j1 (nf + 1) σ1 j σ2 h c1 c2 (wt_fun h1 hF (by omega) hW)
    · split at h
      · cases h; exact ⟨nf, hF, hW⟩
      · cases h
/-- every text that is taken has trees -/
theorem wt_judge {nf : Nat} {σ σ2 : e3_H} (h : a_judge σ = .inr σ2) (hF : F_inv σ m nf) (hW : WF σ nf) : WF σ2 nf := by
  obtain ⟨c1, c2⟩ := a_judge_ok h hF
  intro f f0 f1
  exact WF1_keep (hW f f0 f1) (by rw [c2 40 16 (by decide) (by decide)]; exact Int.le_refl _) (c2 _ _ (by decide) (by decide)) (c2 _ _ (by decide) (by decide)) (fun a x ha _ => c2 a x (by omega) (by omega)) ⟨fun x => c2 44 x (by decide) (by decide), fun x => c2 45 x (by decide) (by decide), c2 40 10 (by decide) (by decide)⟩ (fun k i _ _ _ => c2 69 _ (by decide) (by decide)) (fun k _ _ => ⟨c2 _ _ (by decide) (by decide), c2 _ _ (by decide) (by decide)⟩)
end WTS
