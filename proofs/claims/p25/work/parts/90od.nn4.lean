section NN4
variable {n m : Nat} {t : Int → Int} {r lo : Int}
theorem nn_cols {f : Int} {mu : Bool} {σS : e3_H} : ∀ (rem c : Nat) (last : Int) (i : Nat) (σ : e3_H) (j : Nat) (σ2 : e3_H), a_cols t n f mu rem c last i σ = .inr (j, σ2) → p_inv σ m i → σ 40 16 ≤ (i : Int) → σ 40 27 = r → (1 ≤ σ 74 r ∧ σ 74 r ≤ 1000) → (0 ≤ lo ∧ lo ≤ σ 40 16) → (c ≠ 0 → lo ≤ last) → (∀ k : Nat, c ≤ k → k < c + rem → 0 ≤ σ 69 (3 * f + k) ∧ σ 69 (3 * f + k) < 3 + m) → nm_inv r m σ → NB r σS σ → nm_post r σS σ → ∀ (L : List Int) (C : Int → Nat → Bool), cJ σ lo c r last L C → cS σ last L → (∀ w : Nat, w < 8 → b_bit (σ 40 31) w = true → b_bit (σS 40 31) w = true ∨ ∃ x, x ∈ L ∧ C x w = true) → NB r σS σ2 ∧ nm_inv r m σ2 ∧ nm_post r σS σ2 ∧ ∃ (last2 : Int) (L2 : List Int) (C2 : Int → Nat → Bool), cJ σ2 lo (c + rem) r last2 L2 C2 ∧ cS σ2 last2 L2 ∧ ∀ w : Nat, w < 8 → b_bit (σ2 40 31) w = true → b_bit (σS 40 31) w = true ∨ ∃ x, x ∈ L2 ∧ C2 x w = true := by
  intro rem
  induction rem with
  | zero =>
    intro c last i σ j σ2 h h1 h2 h3 h4 h5 h5' h6 hn hNB hpo L C hJ hKS hcv
    cases h
    exact ⟨hNB, hn, hpo, last, L, C, hJ, hKS, hcv⟩
  | succ rem ih =>
    intro c last i σ j σ2 h h1 h2 h3 h4 h5 h5' h6 hn hNB hpo L C hJ hKS hcv
    unfold a_cols at h
    split at h
    · cases h
    · split at h
      · cases h
      · rename_i j2 σ3 p hp
        have hij : i ≤ (if c = 0 then i else i + 1) := by split <;> omega
        have hin := p_inv_le h1 hij
        obtain ⟨b1, b2, b3, b4, b5, b6⟩ := a_pat_ok _ _ _ _ _ _ _ _ _ hp hin (by omega)
        have hsr := h6 c (by omega) (by omega)
        have n1 := nm_pat (r := r) _ _ _ _ _ _ _ _ _ hp hin (by omega) hsr.1 hsr.2 h3 hn
        obtain ⟨v1, v2⟩ := nn_pat (r := r) _ _ _ _ _ _ _ _ _ hp hin (by omega) hsr.1 hsr.2 h3 hn 6 (by omega)
        obtain ⟨w1, w2, w3⟩ := wt_pat _ _ _ _ _ _ _ _ _ hp hin (by omega) hsr.1 6 (by omega)
        have e27 : σ3 40 27 = r := by rw [b6.2.1 27 (by omega) (by omega)]; exact h3
        have e74 : σ3 74 = σ 74 := b6.2.2.1 74 (by omega) (by omega)
        have e72 : σ3 72 = σ 72 := b6.2.2.1 72 (by omega) (by omega)
        have e69 : σ3 69 = σ 69 := b6.2.2.1 69 (by omega) (by omega)
        have hp0 := h1.2.1.1
        obtain ⟨c1, c2, c3, c4, c5⟩ := a_col1_ok (p0 := lo) (c := c) (last := last) (p := p) b5 (by rw [e27, e74]; exact h4) (by omega) e27 h5'
        have q : ∀ a k : Int, a ≠ 52 → a ≠ 72 → a ≠ 74 → a_col1 σ3 c last p a k = σ3 a k := by
          intro a k y1 y2 y3
          unfold a_col1 a_mulr
          rw [e3_up_ne (by omega)]
          split <;> rw [e3_up_ne (by omega)]
        have n2 := nm_eq (σ2 := a_col1 σ3 c last p) n1.1 (q _ _ (by omega) (by omega) (by omega)) (funext fun x => q _ _ (by omega) (by omega) (by omega)) (funext fun x => q _ _ (by omega) (by omega) (by omega))
        have e31 : a_col1 σ3 c last p 40 31 = σ3 40 31 := q _ _ (by omega) (by omega) (by omega)
        have N3 := NB_tr hNB v1 (fun a x ha hx => b6.2.2.2.1 a x (by omega) (by omega) hx) hpo n1.2
        have N4 : NB r σS (a_col1 σ3 c last p) := NB_eq N3 (fun a x ha => q a x (by omega) (by omega) (by omega)) c3 e31
        have P4 : nm_post r σS (a_col1 σ3 c last p) := np_tr hpo (np_tr n1.2 n2.2)
        have J4 := cJ_col (Cq := fun w => decide (w < 8) && (b_bit (σ3 40 31) w && !(b_bit (σ 40 31) w))) hJ h5 b2 (by omega) e27 e72 (fun a x z1 z2 z3 => b6.2.2.2.1 a x z1 z2 z3) (fun w hw => by
          rw [Bool.and_eq_true, Bool.and_eq_true, decide_eq_true_eq, Bool.not_eq_true'] at hw
          rcases v2 w hw.1 hw.2.1 with z | z
          · rw [hw.2.2] at z; cases z
          · exact z) w2
        have K4 := cS_col hKS hJ b2 (by omega) (fun a x z1 z2 z3 => b6.2.2.2.1 a x z1 z2 z3) (sn_pat (r := r) _ _ _ _ _ _ _ _ _ hp hin (by omega) hsr.1 hsr.2 h3 hn 6 (by omega))
        have V4 : ∀ w : Nat, w < 8 → b_bit (a_col1 σ3 c last p 40 31) w = true → b_bit (σS 40 31) w = true ∨ ∃ x, x ∈ L ++ [p] ∧ (if x = p then (decide (w < 8) && (b_bit (σ3 40 31) w && !(b_bit (σ 40 31) w))) else C x w) = true := fun w hw hb => by
          rw [e31] at hb
          cases hz : b_bit (σ 40 31) w with
          | true =>
            rcases hcv w hw hz with y | ⟨x, x1, x2⟩
            · exact Or.inl y
            · have hx := (cJ_lt hJ x x1).2
              exact Or.inr ⟨x, List.mem_append_left _ x1, by rw [if_neg (by omega)]; exact x2⟩
          | false => exact Or.inr ⟨p, List.mem_append_right _ (List.mem_singleton.mpr rfl), by rw [if_pos rfl, hb, decide_eq_true hw]; rfl⟩
        have := ih (c + 1) p j2 _ j σ2 h c1 (by rw [c3]; omega) c4 c5 (by rw [c3]; omega) (fun _ => by omega) (fun k k1 k2 => by rw [q _ _ (by omega) (by omega) (by omega), e69]; exact h6 k (by omega) (by omega)) n2.1 N4 P4 _ _ J4 K4 V4
        rw [show c + 1 + rem = c + (rem + 1) by omega] at this
        exact this
theorem nn_rule {f : Int} {i j : Nat} {σ σ2 : e3_H} (h : a_rule t n f i σ = .inr (j, σ2)) (hp : p_w σ m) (hs : σ 40 16 ≤ (i : Int)) (hf : 0 ≤ f ∧ f < 12) (hc : c_ok σ m f) (h1 : 1 ≤ σ 68 f) (h70 : 0 ≤ σ 70 f ∧ σ 70 f < 16) : NNr σ2 (16 * f + σ 70 f) (σ 68 f).toNat := by
  have hwr := wt_rule h hp hs hf hc h1 h70
  unfold a_rule at h
  have er : a_rno f σ = 16 * f + σ 70 f := by unfold a_rno; rw [if_neg (by omega)]
  rw [er] at h
  generalize hr : 16 * f + σ 70 f = r at *
  have p0 : p_inv (a_rule0 t n r i σ) m i := p_rule0 hp hs (by omega)
  have z27 : a_rule0 t n r i σ 40 27 = r := by unfold a_rule0; simp (disch := omega) only [e3_up_self, e3_up_ne]
  have z74 : a_rule0 t n r i σ 74 r = 1 := by unfold a_rule0; simp (disch := omega) only [e3_up_self, e3_up_ne]
  have z16 : a_rule0 t n r i σ 40 16 = σ 40 16 := by unfold a_rule0; simp (disch := omega) only [e3_up_self, e3_up_ne]
  have z31 : a_rule0 t n r i σ 40 31 = 0 := by unfold a_rule0; simp (disch := omega) only [e3_up_self, e3_up_ne]
  have z56 : a_rule0 t n r i σ 56 r = 0 := by unfold a_rule0; simp (disch := omega) only [e3_up_self, e3_up_ne]
  have z69 : ∀ x, a_rule0 t n r i σ 69 x = σ 69 x := by intro x; unfold a_rule0; simp (disch := omega) only [e3_up_self, e3_up_ne]
  have b0 : ∀ w : Nat, b_bit 0 w = false := fun w => by unfold b_bit; rw [Int.zero_ediv]; rfl
  have hp0 := hp.2.1
  have zn : nm_inv r m (a_rule0 t n r i σ) := by
    refine ⟨fun w hw hb => ?_, fun w hw => ?_⟩
    · rw [z31, b0 w] at hb; cases hb
    · rw [z56] at hw; omega
  split at h
  · cases h
  · rename_i j1 σ1 h1'
    obtain ⟨c1, c2, c3, c4, c5, c6⟩ := a_cols_ok (r := r) (p0 := σ 40 16) _ _ _ _ _ _ _ h1' p0 (by rw [z16]; exact hs) z27 (by rw [z74]; omega) (by rw [z16]; omega) (fun z => absurd rfl z)
    obtain ⟨N1, n1, P1, last2, L2, C2, J1, K1, V1⟩ := nn_cols (r := r) (lo := σ 40 16) (σS := a_rule0 t n r i σ) _ _ _ _ _ _ _ h1' p0 (by rw [z16]; exact hs) z27 (by rw [z74]; omega) (by rw [z16]; omega) (fun z => absurd rfl z) (fun k k1 k2 => by rw [z69]; exact hc.2 k (by omega)) zn (fun a x _ x0 x1 => by omega) ⟨fun _ _ hb => hb, fun w hw y1 y2 => by omega, fun _ _ _ => rfl, Int.le_refl _⟩ [] (fun _ _ => false) (Or.inl ⟨rfl, rfl⟩) (fun x hx => absurd hx (List.not_mem_nil)) (fun w _ hb => Or.inl hb)
    have h56 := c2.2.2.2.1
    rw [c4] at h56
    have hlt := cJ_lt J1
    split at h
    · cases h
    · split at h
      · cases h
      · rename_i j2 σ3 h3
        have g1 := g_guard h3
        split at h
        · split at h
          · cases h
          · rename_i j4 σ4 h4
            have g2 := (g_answer h4).1
            split at h
            · cases h
              have e : ∀ a x : Int, a < 75 → a ≠ 70 → (e3_up σ4 70 f (σ4 70 f + 1)) a x = σ1 a x := fun a x ha hb => by
                rw [e3_up_ne (ne_1 hb), g2 a x (Or.inl ha), g1 a x (Or.inl ha)]
              have e16 := e 40 16 (by decide) (by decide)
              refine ⟨σ 40 16, σ1 40 16, ⟨hp0, by rw [e16]; exact Int.le_refl _⟩, by rw [e16] at hwr; exact hwr, fun a x ha x0 x1 z => ?_, ?_⟩
              · rw [e a x (by omega) (by omega)] at z ⊢
                obtain ⟨w, w1, w2, w3, w4, w5⟩ := N1 a x ha (by rw [z16]; exact x0) x1 z
                exact ⟨w, w1, w2, by rw [e 56 _ (by decide) (by decide)]; exact n1.1 w w1 w4, by rw [e 58 _ (by decide) (by decide), e 47 _ (by decide) (by decide)]; exact w5⟩
              · rcases J1 with ⟨y1, y2⟩ | ⟨L0, y0, y1, ⟨y2, y3, y4⟩, y5, _⟩
                · omega
                · refine ⟨L2, ?_, fun c hc => hlt c hc, fun w hw => ?_, fun c hc => ?_⟩
                  · rw [e 72 _ (by decide) (by decide), y0]
                    exact ach_keep _ _ y5 (fun c _ => e 52 c (by decide) (by decide))
                  · rw [e 56 _ (by decide) (by decide)] at hw
                    have hb := P1.2.1 w (by omega) (by rw [z56]; omega) hw
                    rcases V1 w (by omega) hb with z | ⟨c, q1, q2⟩
                    · rw [z31, b0 w] at z; cases z
                    · refine ⟨c, q1, ?_⟩
                      have hv : nv σ1 6 (σ1 40 16) c w := by
                        rw [y0] at q1
                        rcases List.mem_append.mp q1 with hm | hm
                        · exact nv_mono 6 last2 _ c ((y1 c hm).2.2 w q2) (by omega)
                        · rw [List.mem_singleton.mp hm] at q2 ⊢; exact y4 w q2
                      exact nv_keep 6 _ c hv (hlt c q1).2 (fun a x ha _ _ => e a x (by omega) (by omega)) (fun x _ _ z => by rw [e 54 x (by decide) (by decide)]; exact z) (fun x _ _ => e 52 x (by decide) (by decide))
                  · obtain ⟨ec, k1, k2, _⟩ := K1 c hc
                    exact ⟨ec, k1, sn_keep 6 c ec k2 (fun a x ha _ _ => e a x (by omega) (by omega)) (fun a x ha _ _ => e a x (by omega) (by omega))⟩
            · cases h
        · cases h
def NN1 (σ : e3_H) (f : Int) : Prop := ∀ k : Int, 0 ≤ k → k < σ 70 f → NNr σ (16 * f + k) (σ 68 f).toNat
def NN (σ : e3_H) (nf : Nat) : Prop := ∀ f : Int, 0 ≤ f → f < nf → NN1 σ f
theorem nn_rules {f : Int} (hf : 0 ≤ f ∧ f < 12) : ∀ (g i : Nat) (σ : e3_H) (j : Nat) (σ2 : e3_H), a_rules t n f g i σ = .inr (j, σ2) → p_w σ m → σ 40 16 ≤ (i : Int) → F_one σ m f → F_lt σ m f → NN1 σ f → NN1 σ2 f := by
  intro g
  induction g with
  | zero => intro i σ j σ2 h; cases h
  | succ g ih =>
    intro i σ j σ2 h hp hs hF hL hW
    unfold a_rules at h
    split at h
    · cases h; exact hW
    · split at h
      · cases h
      · rename_i j1 σ1 h1
        obtain ⟨c1, c2, c3, c4, c5, c6⟩ := F_rule h1 hp hs hf hF hL
        obtain ⟨b1, b2, b3, b4, b5, b6, b7, b8⟩ := a_rule_ok h1 hp hs hf hF.1 hF.2.1 hF.2.2.1
        have h70 := hF.2.2.1
        have e68 : σ1 68 f = σ 68 f := b7 68 f (by unfold h_own; omega) (by omega)
        refine ih j1 σ1 j σ2 h c3 c4 c1 c2 (fun k k0 hk => ?_)
        rw [b5] at hk
        rw [e68]
        by_cases hz : k = σ 70 f
        · rw [hz]
          exact nn_rule h1 hp hs hf hF.1 hF.2.1 ⟨h70.1, b2⟩
        · exact NNr_keep (hW k k0 (by omega)) b6 (fun a x a1 a2 hx => b7 a x (by unfold h_own; omega) (by omega)) ⟨fun x => b7 44 x (by unfold h_own; omega) (by omega), fun x => b7 45 x (by unfold h_own; omega) (by omega), b7 40 10 (by unfold h_own; omega) (by omega)⟩ (fun i _ => b7 69 _ (by unfold h_own; omega) (by omega)) (b7 _ _ (by unfold h_own; omega) (by omega)) (b7 _ _ (by unfold h_own; omega) (by omega)) (b7 _ _ (by unfold h_own; omega) (by omega)) (fun w hw => b7 _ _ (by unfold h_own; omega) (by omega))
theorem nn_fun {i j nf : Nat} {σ σ2 : e3_H} (h : a_fun t n i σ = .inr (j, σ2)) (hF : F_inv σ m nf) (hs : σ 40 16 ≤ (i : Int)) (hW : NN σ nf) : NN σ2 (nf + 1) := by
  obtain ⟨r1, r2, r3⟩ := a_fun_fr h hF hs
  intro g g0 g1
  by_cases hg : g = nf
  · rw [hg]
    obtain ⟨h1, h2, h3, h4, h5⟩ := hF
    unfold a_fun at h
    split at h
    · cases h
    split at h
    · cases h
    rename_i hnf
    split at h
    · cases h
    rename_i h12
    split at h
    · cases h
    rw [h1] at h h12
    obtain ⟨n1, n2, n3, n4, n5, n6, n7, n8⟩ := F_new (v := x_wo t n i) h1 h5 h4
    unfold a_fun2 at h
    split at h
    · cases h
    rename_i j1 σ1 hc
    obtain ⟨c1, c2, c3, c4⟩ := a_cls_ok _ _ _ _ _ hc n5.1 n1
    split at h
    · have e70 : σ1 70 nf = 0 := by rw [c4 70 _ (by omega) (by omega)]; exact n3
      have pw1 : p_w σ1 m := by
        have e : ∀ a : Int, a ≠ 68 → a ≠ 69 → σ1 a = a_fnew σ nf (x_wo t n i) a := fun a y1 y2 => funext fun k => c4 a k (by omega) (by omega)
        obtain ⟨q1, q2, q3⟩ := n5
        refine ⟨k_inv_congr q1 (by rw [e 40 (by omega) (by omega)]) (e 42 (by omega) (by omega)) (e 43 (by omega) (by omega)) (e 44 (by omega) (by omega)) (e 45 (by omega) (by omega)), ?_⟩
        rw [e 40 (by omega) (by omega), e 55 (by omega) (by omega)]
        exact ⟨q2, q3⟩
      have e16 : σ1 40 16 = σ 40 16 := by rw [c4 40 16 (by omega) (by omega)]; exact n6
      exact nn_rules (m := m) (f := nf) (by omega) _ _ _ _ _ h pw1 (by rw [e16]; omega) ⟨c2, c3, by rw [e70]; omega, fun k k0 hk => by rw [e70] at hk; omega⟩ (fun g g0 g1 => F_one_fr (n4 g g0 g1) (fun a k hk => c4 a k (by omega) (by omega))) (fun k k0 hk => by rw [e70] at hk; omega)
    · cases h
  · have hF1 := hF.2.2.2.1 g g0 (by omega)
    have h70 := hF1.2.2.1
    have h68 := hF1.1.1
    have e10 : σ2 40 10 = σ 40 10 := by rw [hF.2.2.2.2.1.1, (a_fun_ok h hF hs).1.2.2.2.2.1.1]
    intro k k0 hk
    rw [r3 g g0 (by omega) 70 g (Or.inl ⟨by omega, rfl⟩)] at hk
    rw [r3 g g0 (by omega) 68 g (Or.inl ⟨by omega, rfl⟩)]
    have ek : (k.toNat : Int) = k := Int.toNat_of_nonneg k0
    have ow : ∀ a x : Int, r_own (16 * g + k) a x → σ2 a x = σ a x := fun a x hx => r3 g g0 (by omega) a x (Or.inr (Or.inr (Or.inr ⟨k.toNat, by omega, by rw [ek]; exact hx⟩)))
    refine NNr_keep (hW g g0 (by omega) k k0 hk) r1 (fun a x a1 a2 hx => r3 g g0 (by omega) a x (Or.inr (Or.inr (Or.inl ⟨a1, a2, hx⟩)))) ⟨fun x => by rw [r2 44 (by omega) (by omega)], fun x => by rw [r2 45 (by omega) (by omega)], e10⟩ (fun i hi => r3 g g0 (by omega) 69 _ (Or.inr (Or.inl ⟨rfl, by omega, by omega⟩))) (ow _ _ (by unfold r_own; omega)) (ow _ _ (by unfold r_own; omega)) (ow _ _ (by unfold r_own; omega)) (fun w hw => ow _ _ (by unfold r_own; omega))
theorem nn_funs : ∀ (g i nf : Nat) (σ : e3_H) (j : Nat) (σ2 : e3_H), a_funs t n g i σ = .inr (j, σ2) → F_inv σ m nf → σ 40 16 ≤ (i : Int) → NN σ nf → ∃ nf2, F_inv σ2 m nf2 ∧ NN σ2 nf2 := by
  intro g
  induction g with
  | zero => intro i nf σ j σ2 h; cases h
  | succ g ih =>
    intro i nf σ j σ2 h hF hs hW
    unfold a_funs at h
    split at h
    · split at h
      · cases h
      · rename_i j1 σ1 h1
        obtain ⟨c1, c2, c3⟩ := a_fun_ok h1 hF (by omega)
        exact ih j1 (nf + 1) σ1 j σ2 h c1 c2 (nn_fun h1 hF (by omega) hW)
    · split at h
      · cases h; exact ⟨nf, hF, hW⟩
      · cases h
theorem NN_keep {nf : Nat} {σ σ2 : e3_H} (c2 : ∀ a x : Int, a ≠ 71 → a ≠ 80 → σ2 a x = σ a x) (h : NN σ nf) : NN σ2 nf := by
  intro f f0 f1 k k0 hk
  rw [c2 70 f (by decide) (by decide)] at hk
  rw [c2 68 f (by decide) (by decide)]
  exact NNr_keep (h f f0 f1 k k0 hk) (by rw [c2 40 16 (by decide) (by decide)]; exact Int.le_refl _) (fun a x a1 a2 _ => c2 a x (by omega) (by omega)) ⟨fun x => c2 44 x (by decide) (by decide), fun x => c2 45 x (by decide) (by decide), c2 40 10 (by decide) (by decide)⟩ (fun i _ => c2 69 _ (by decide) (by decide)) (c2 _ _ (by decide) (by decide)) (c2 _ _ (by decide) (by decide)) (c2 _ _ (by decide) (by decide)) (fun w _ => c2 _ _ (by decide) (by decide))
end NN4
