/-- what is judged of a rule -/
def j_inv (σ : e3_H) (m : Nat) (r : Int) : Prop := (1 ≤ σ 74 r ∧ σ 74 r ≤ 1000) ∧ (0 ≤ σ 56 r ∧ σ 56 r ≤ 8) ∧ (∀ k : Nat, (k : Int) < σ 56 r → 0 ≤ σ 58 (8 * r + k) ∧ σ 58 (8 * r + k) < 3 + m) ∧ (σ 79 r = 2 → ∀ k : Nat, k < 3 → (k : Int) < σ 83 r → 0 ≤ σ 84 (3 * r + k) ∧ σ 84 (3 * r + k) < σ 56 r)
section RJ
variable {n m : Nat} {t : Int → Int} {r : Int}
theorem a_pat_mu {f d i : Nat} {s : Int} {σ : e3_H} : a_pat t n (f + 1) s d true i σ = .inl (x_sp t n i) := by
  unfold a_pat
  rw [if_pos (Or.inr (Or.inl rfl))]
theorem nm_cols {f : Int} {mu : Bool} : ∀ (rem c : Nat) (last : Int) (i : Nat) (σ : e3_H) (j : Nat) (σ2 : e3_H), a_cols t n f mu rem c last i σ = .inr (j, σ2) → p_inv σ m i → σ 40 16 ≤ (i : Int) → σ 40 27 = r → (1 ≤ σ 74 r ∧ σ 74 r ≤ 1000) → (c ≠ 0 → 0 ≤ last) → (∀ k : Nat, c ≤ k → k < c + rem → 0 ≤ σ 69 (3 * f + k) ∧ σ 69 (3 * f + k) < 3 + m) → nm_inv r m σ → nm_inv r m σ2 ∧ nm_post r σ σ2 := by
  intro rem
  induction rem with
  | zero =>
    intro c last i σ j σ2 h h1 h2 h3 h4 h5 h6 hn
    cases h
    exact nm_eq hn rfl rfl rfl
  | succ rem ih =>
    intro c last i σ j σ2 h h1 h2 h3 h4 h5 h6 hn
    unfold a_cols at h
    split at h
    · cases h
    · split at h
      · cases h
      · rename_i j2 σ3 p hp
        have hij : i ≤ (if c = 0 then i else i + 1) := by split <;> omega
        obtain ⟨b1, b2, b3, b4, b5, b6⟩ := a_pat_ok _ _ _ _ _ _ _ _ _ hp (p_inv_le h1 hij) (by omega)
        have hsr := h6 c (by omega) (by omega)
        have n1 := nm_pat _ _ _ _ _ _ _ _ _ hp (p_inv_le h1 hij) (by omega) hsr.1 hsr.2 h3 hn
        have e27 : σ3 40 27 = r := by rw [b6.2.1 27 (by omega) (by omega)]; exact h3
        have e74 : σ3 74 = σ 74 := b6.2.2.1 74 (by omega) (by omega)
        have e69 : σ3 69 = σ 69 := b6.2.2.1 69 (by omega) (by omega)
        have hp0 := h1.2.1.1
        obtain ⟨c1, c2, c3, c4, c5⟩ := a_col1_ok (p0 := 0) (c := c) (last := last) (p := p) b5 (by rw [e27, e74]; exact h4) (by omega) e27 h5
        have q : ∀ a k : Int, a ≠ 52 → a ≠ 72 → a ≠ 74 → a_col1 σ3 c last p a k = σ3 a k := by
          intro a k y1 y2 y3
          unfold a_col1 a_mulr
          rw [e3_up_ne (by omega)]
          split <;> rw [e3_up_ne (by omega)]
        have n2 := nm_eq (σ2 := a_col1 σ3 c last p) n1.1 (q _ _ (by omega) (by omega) (by omega)) (funext fun x => q _ _ (by omega) (by omega) (by omega)) (funext fun x => q _ _ (by omega) (by omega) (by omega))
        have n3 := ih (c + 1) p j2 _ j σ2 h c1 (by rw [c3]; omega) c4 c5 (by omega) (fun k k1 k2 => by rw [q _ _ (by omega) (by omega) (by omega), e69]; exact h6 k (by omega) (by omega)) n2.1
        exact ⟨n3.1, np_tr n1.2 (np_tr n2.2 n3.2)⟩
def g_hd (r : Int) (σ : e3_H) : Prop := ∀ k : Nat, k < 3 → (k : Int) < σ 83 r → 0 ≤ σ 84 (3 * r + k) ∧ σ 84 (3 * r + k) < σ 56 r
theorem a_bnd_rg {σ : e3_H} {v k : Int} {wh : Bool} (h : a_bnd σ v wh = some k) : 0 ≤ k ∧ k < σ 56 (σ 40 27) ∧ b_bit (σ 40 31) k.toNat = true ∧ k = a_no σ v ∧ (wh = true → σ 58 (8 * σ 40 27 + k) = 0) := by
  unfold a_bnd at h
  have hr := a_fd_rg (a_rn σ) v (a_nm σ)
  have e : a_no σ v = a_fd (a_rn σ) v (a_nm σ) := rfl
  have e2 : (a_nm σ : Int) = (σ 56 (σ 40 27)).toNat := rfl
  split at h
  · cases h
  · split at h
    · cases h
    · split at h
      · cases h
      · rename_i h1 h2 h3
        cases h
        refine ⟨by omega, by omega, ?_, rfl, fun hw => ?_⟩
        · cases hb : b_bit (σ 40 31) (a_no σ v).toNat with
          | false => exact absurd hb h2
          | true => rfl
        · by_cases hz : σ 58 (8 * σ 40 27 + a_no σ v) = 0
          · exact hz
          · exact absurd ⟨hw, hz⟩ h3
theorem args_hd : ∀ (f i j : Nat) (σ σ2 : e3_H), a_args t n f i σ = .inr (j, σ2) → σ 40 27 = r → 0 ≤ σ 83 r → g_hd r σ → g_hd r σ2 ∧ 1 ≤ σ2 83 r := by
  intro f
  induction f with
  | zero => intro i j σ σ2 h; cases h
  | succ f ih =>
    intro i j σ σ2 h h27 h83 hg
    unfold a_args at h
    split at h
    · split at h
      · cases h
      · rename_i k hk
        have hb := a_bnd_rg hk
        rw [h27] at hb
        have e83 : ∀ sp, a_arg1 σ k sp 83 r = σ 83 r + 1 := by
          intro sp
          unfold a_arg1
          rw [h27]
          split <;> simp (disch := omega) only [e3_up_self, e3_up_ne]
        have e56 : ∀ sp, a_arg1 σ k sp 56 r = σ 56 r := fun sp => g_arg1 56 r (by omega)
        have eh : ∀ sp, g_hd r (a_arg1 σ k sp) := by
          intro sp c c1 c2
          rw [e83] at c2
          rw [e56]
          unfold a_arg1
          rw [h27]
          by_cases hc : σ 83 r < 3
          · rw [if_pos hc]
            by_cases hz : (c : Int) = σ 83 r
            · rw [hz]
              simp (disch := omega) only [e3_up_self, e3_up_ne]
              omega
            · rw [e3_up_ne (by omega), e3_up_ne (by omega), e3_up_ne (by omega)]
              exact hg c c1 (by omega)
          · rw [if_neg hc, e3_up_ne (by omega)]
            exact hg c c1 (by omega)
        split at h
        · exact ih _ _ _ _ h (by rw [g_arg1 40 27 (by omega)]; exact h27) (by rw [e83]; omega) (eh _)
        · split at h
          · cases h; exact ⟨eh _, by rw [e83]; omega⟩
          · cases h
    · cases h
theorem answer_hd {i j : Nat} {σ σ2 : e3_H} (h : a_answer t n i σ = .inr (j, σ2)) (h27 : σ 40 27 = r) : σ2 79 r = 2 → g_hd r σ2 := by
  intro h79
  unfold a_answer at h
  split at h
  · split at h
    · rw [h27] at h
      refine (args_hd (r := r) _ _ _ _ _ h (by simp (disch := omega) only [e3_up_self, e3_up_ne]; exact h27) (by simp (disch := omega) only [e3_up_self, e3_up_ne]; omega) (fun k k1 k2 => ?_)).1
      rw [e3_up_ne (by omega), e3_up_ne (by omega), e3_up_self] at k2
      omega
    · split at h
      · cases h
      · cases h
        rw [h27] at h79
        simp (disch := omega) only [e3_up_self, e3_up_ne] at h79
        omega
  · split at h
    · cases h
    · cases h
      rw [h27] at h79
      simp (disch := omega) only [e3_up_self, e3_up_ne] at h79
      omega
theorem a_rule_ok {f : Int} {i j : Nat} {σ σ2 : e3_H} (h : a_rule t n f i σ = .inr (j, σ2)) (hp : p_w σ m) (hs : σ 40 16 ≤ (i : Int)) (hf : 0 ≤ f ∧ f < 12) (hc : c_ok σ m f) (h1 : 1 ≤ σ 68 f) (h70 : 0 ≤ σ 70 f ∧ σ 70 f ≤ 16) : i < j ∧ σ 70 f < 16 ∧ p_w σ2 m ∧ σ2 40 16 ≤ (j : Int) ∧ σ2 70 f = σ 70 f + 1 ∧ σ 40 16 ≤ σ2 40 16 ∧ (∀ a k : Int, ¬ h_own (16 * f + σ 70 f) (σ 40 16) a k → ¬ (a = 70 ∧ k = f) → σ2 a k = σ a k) ∧ j_inv σ2 m (16 * f + σ 70 f) := by
  unfold a_rule at h
  have h16 : σ 70 f < 16 := by
    by_cases hz : σ 70 f = 16
    · exfalso
      rw [decide_eq_true hz] at h
      have : ∃ c : Nat, (σ 68 f).toNat = c + 1 := ⟨(σ 68 f).toNat - 1, by omega⟩
      obtain ⟨c, hc⟩ := this
      rw [hc] at h
      unfold a_cols at h
      rw [if_neg (by omega)] at h
      rw [show (true && decide ((0 : Nat) = 0)) = true from rfl, a_pat_mu] at h
      cases h
    · omega
  have er : a_rno f σ = 16 * f + σ 70 f := by unfold a_rno; rw [if_neg (by omega)]
  rw [er] at h
  generalize hr : 16 * f + σ 70 f = r at *
  have p0 : p_inv (a_rule0 t n r i σ) m i := p_rule0 hp hs (by omega)
  have z27 : a_rule0 t n r i σ 40 27 = r := by unfold a_rule0; simp (disch := omega) only [e3_up_self, e3_up_ne]
  have z74 : a_rule0 t n r i σ 74 r = 1 := by unfold a_rule0; simp (disch := omega) only [e3_up_self, e3_up_ne]
  have z16 : a_rule0 t n r i σ 40 16 = σ 40 16 := by unfold a_rule0; simp (disch := omega) only [e3_up_self, e3_up_ne]
  have z69 : ∀ x, a_rule0 t n r i σ 69 x = σ 69 x := by intro x; unfold a_rule0; simp (disch := omega) only [e3_up_self, e3_up_ne]
  have z0 : ∀ a k : Int, ¬ h_own r (σ 40 16) a k → a_rule0 t n r i σ a k = σ a k := by
    intro a k hk
    unfold h_own at hk
    unfold a_rule0
    rw [e3_up_ne (by omega), e3_up_ne (by omega), e3_up_ne (by omega), e3_up_ne (by omega), e3_up_ne (by omega)]
  have zn : nm_inv r m (a_rule0 t n r i σ) := by
    refine ⟨fun k hk hb => ?_, fun k hk => ?_⟩
    · exfalso
      unfold a_rule0 at hb
      rw [e3_up_ne (by omega), e3_up_self] at hb
      unfold b_bit at hb
      have := of_decide_eq_true hb
      rw [Int.zero_ediv] at this
      omega
    · exfalso
      unfold a_rule0 at hk
      rw [e3_up_ne (by omega), e3_up_ne (by omega), e3_up_self] at hk
      omega
  split at h
  · cases h
  · rename_i j1 σ1 h1'
    obtain ⟨c1, c2, c3, c4, c5, c6⟩ := a_cols_ok (r := r) (p0 := σ 40 16) _ _ _ _ _ _ _ h1' p0 (by rw [z16]; exact hs) z27 (by rw [z74]; omega) (by rw [z16]; omega) (fun z => absurd rfl z)
    have hn := nm_cols (r := r) _ _ _ _ _ _ _ h1' p0 (by rw [z16]; exact hs) z27 (by rw [z74]; omega) (fun z => absurd rfl z) (fun k k1 k2 => by rw [z69]; exact hc.2 k (by omega)) zn
    split at h
    · cases h
    · split at h
      · cases h
      · rename_i j2 σ2' h2'
        split at h
        · split at h
          · cases h
          · rename_i j3 σ3 h3'
            split at h
            · cases h
              have g1 := h_guard (p0 := σ 40 16) h2' c4
              have gg := g_guard h2'
              have e27 : σ2' 40 27 = r := by rw [gg 40 27 (by omega)]; exact c4
              have g2 := h_answer (p0 := σ 40 16) h3' e27
              have ga := (g_answer h3').1
              have gt := g_tr gg ga
              have p3 := p_g (p_inv_le c2 (show j1 ≤ j3 + 1 by have := g1.2; have := g2.2; omega)) gt
              have hA := answer_hd h3' e27
              have e56 : σ3 56 r = σ1 56 r := gt 56 r (by omega)
              have hfr := h_tr c6 (h_tr g1.1 g2.1)
              have e70 : σ3 70 f = σ 70 f := by rw [hfr.2 70 f (by unfold h_own; omega)]; exact z0 70 f (by unfold h_own; omega)
              have e16 : σ3 40 16 = σ1 40 16 := gt 40 16 (by omega)
              have h56 := c2.2.2.2.1
              rw [c4] at h56
              have := g1.2
              have := g2.2
              have hfr1 := hfr.1
              rw [z16] at hfr1
              refine ⟨by omega, h16, p_w_up (p_w_p p3) (by omega), by rw [e3_up_ne (by omega), e16]; omega, by rw [e3_up_self, e70], by rw [e3_up_ne (by omega)]; exact hfr1, fun a k ha hk => ?_, ⟨?_, ?_, fun k hk => ?_, fun h79 k k1 k2 => ?_⟩⟩
              · rw [e3_up_ne (by omega), hfr.2 a k ha]
                exact z0 a k ha
              · rw [e3_up_ne (by omega), gt 74 r (by omega)]; exact c5
              · rw [e3_up_ne (by omega), e56]; exact h56
              · rw [e3_up_ne (by omega), e56] at hk
                rw [e3_up_ne (by omega), gt 58 _ (by omega)]
                exact hn.1.2 k hk
              · rw [e3_up_ne (by omega)] at h79 k2
                rw [e3_up_ne (by omega), e3_up_ne (by omega)]
                exact hA h79 k k1 k2
            · cases h
        · cases h
end RJ
