section RU
variable {H0 : e3_H} {G : e3_G} {n m : Nat} {t : Int → Int}
/-- between rules -/
def p_w (σ : e3_H) (m : Nat) : Prop := k_inv σ m ∧ 0 ≤ σ 40 16 ∧ ∀ q : Int, 0 ≤ q → q < σ 40 16 → 1 ≤ σ 55 q ∧ σ 55 q ≤ 1000
def r_T (t : Int → Int) (n i m : Nat) (σ K : e3_H) : Prop := (r_tk t n i K ∧ r_in t n i ∧ r_N σ K ∧ K 40 7 = 0 ∧ p_w σ m) ∧ σ 40 16 ≤ (i : Int)
theorem p_w_p {σ : e3_H} {i : Nat} (h : p_inv σ m i) : p_w σ m := ⟨h.1, h.2.1.1, h.2.2.2.2.2⟩
theorem r_F_T {σ K : e3_H} {i : Nat} (h : r_F t n i m σ K) : r_T t n i m σ K := ⟨⟨h.1.1, h.1.2.1, h.1.2.2.1, h.1.2.2.2.1, p_w_p h.1.2.2.2.2⟩, h.2⟩
theorem p_rule0 {σ : e3_H} {i : Nat} {r x : Int} (hp : p_w σ m) (hs : σ 40 16 ≤ (i : Int)) (hr : 0 ≤ r ∧ r < 192) : p_inv (e3_up (e3_up (e3_up (e3_up (e3_up σ 40 27 r) 73 r x) 56 r 0) 40 31 0) 74 r 1) m i := by
  obtain ⟨hk, h16, h55⟩ := hp
  refine ⟨k_inv_up (k_inv_up (k_inv_up (k_inv_up (k_inv_up hk (by omega)) (by omega)) (by omega)) (by omega)) (by omega), by simp (disch := omega) only [e3_up_self, e3_up_ne]; omega, by simp (disch := omega) only [e3_up_self, e3_up_ne]; exact hr, by simp (disch := omega) only [e3_up_self, e3_up_ne]; omega, by simp (disch := omega) only [e3_up_self, e3_up_ne]; omega, ?_⟩
  intro q h0 hq
  have e16 : (e3_up (e3_up (e3_up (e3_up (e3_up σ 40 27 r) 73 r x) 56 r 0) 40 31 0) 74 r 1) 40 16 = σ 40 16 := by simp (disch := omega) only [e3_up_self, e3_up_ne]
  rw [e16] at hq
  simp (disch := omega) only [e3_up_self, e3_up_ne]
  exact h55 q h0 hq
theorem cM_cols {Q : e3_H → e3_G → Prop} {f r muI : Int} {mu : Bool} {S : Int → Int} {cols : Nat} (hmu : muI = if mu = true then 1 else 0) (hf : 0 ≤ f ∧ f < 12) (hcols : cols ≤ 3) (hS : ∀ c : Nat, c < cols → 0 ≤ S (3 * f + c) ∧ S (3 * f + c) < 3 + m) :
    ∀ (rem c : Nat) (last : Int) (i : Nat) (σ K : e3_H), c + rem = cols → r_F t n i m σ K → f_fr H0 K → σ 68 f = (cols : Int) → σ 69 = S → σ 40 27 = r → (1 ≤ σ 74 r ∧ σ 74 r ≤ 1000) → (c ≠ 0 → 0 ≤ last ∧ last < σ 40 16) →
      (∀ j σ2, a_cols t n f mu rem c last i σ = .inr (j, σ2) → ∀ K', r_F t n j m σ2 K' → f_fr H0 K' → wM_readRule_252 Q f K' G) →
      (∀ q, a_cols t n f mu rem c last i σ = .inl q → ∀ K', r_bd q H0 K' → Q K' G) → wM_readRule_85 Q (rem + 1) f muI last c K G := by
  intro rem
  induction rem with
  | zero =>
    intro c last i σ K hc h hfr h68 h69 h27 h74 hl hok hfl
    have e68 : K 68 = σ 68 := r_N_at h.1.2.2.1 68 (by omega)
    unfold wM_readRule_85
    rw [e68, h68]
    exact ⟨by omega, brF (by omega) (hok i σ rfl K h hfr)⟩
  | succ rem ih =>
    intro c last i σ K hc h hfr h68 h69 h27 h74 hl hok hfl
    have e68 : K 68 = σ 68 := r_N_at h.1.2.2.1 68 (by omega)
    have hi := r_i h.1.2.1
    have h27r := h.1.2.2.2.2.2.2.1
    have hp0 := h.1.2.2.2.2.2.1.1
    -- behind the comma
    have main : ∀ (i2 : Nat) (K2 : e3_H), i2 = (if c = 0 then i else i + 1) → (c = 0 ∨ x_ty t n i = 44) → r_F t n i2 m σ K2 → f_fr H0 K2 → wM_readRule_133 Q (fun l1 l2 l3 l4 H G => wM_readRule_85 Q (rem + 1) l1 l2 l3 l4 H G) f muI last c K2 G := by
      intro i2 K2 ei2 hcm h2 f2
      have e69 : K2 69 = S := by rw [r_N_at h2.1.2.2.1 69 (by omega)]; exact h69
      have hs := hS c (by omega)
      have hap : a_cols t n f mu (rem + 1) c last i σ = (match a_pat t n 7 (σ 69 (3 * f + c)) 0 (mu && decide (c = 0)) i2 σ with
          | .inl q => .inl q
          | .inr (j, σ2, p) => a_cols t n f mu rem (c + 1) p j (a_col1 σ2 c last p)) := by
        conv => lhs; unfold a_cols
        rw [if_neg (by omega), ← ei2]
        rfl
      rw [hap, h69] at hok hfl
      have e159 : ∀ y, (y = if (mu && decide (c = 0)) = true then 1 else 0) → wM_readRule_159 Q (fun l1 l2 l3 l4 H G => wM_readRule_85 Q (rem + 1) l1 l2 l3 l4 H G) f muI last c y (S (3 * f + c)) K2 G := by
        intro y hy
        unfold wM_readRule_159
        refine cM_readPattern hy h2.1 h2.2 (rp_rf K2) hs (fun q he x K3 hb => brF hb.1 (hfl q (by rw [he]) K3 (bd_rp f2 hb))) (fun j σ2 p he K3 a3 b3 => brT a3.2.2.2.1 ?_)
        obtain ⟨b1, b2, b3', b4, b5, b6⟩ := a_pat_ok _ _ _ _ _ _ _ _ _ he h2.1.2.2.2.2 h2.2
        have hj := r_i a3.2.1
        have h16 := h.2
        rw [he] at hok hfl
        have e27 : σ2 40 27 = r := by rw [b6.2.1 27 (by omega) (by omega)]; exact h27
        have e74 : σ2 74 = σ 74 := b6.2.2.1 74 (by omega) (by omega)
        have e68' : σ2 68 = σ 68 := b6.2.2.1 68 (by omega) (by omega)
        have e69' : σ2 69 = σ 69 := b6.2.2.1 69 (by omega) (by omega)
        have k27 : K3 40 27 = r := by rw [r_N_f a3.2.2.1 27 (by omega)]; exact e27
        have r2 := b5.2.2.2.2.2 p (by omega) (by omega)
        obtain ⟨c1, c2, c3, c4, c5⟩ := a_col1_ok (p0 := 0) (c := c) (last := last) (p := p) b5 (by rw [e27, e74]; exact h74) (by omega) e27 (fun z => (hl z).1)
        have fin : ∀ K4, r_F t n j m (if c = 0 then e3_up σ2 72 (σ2 40 27) p else e3_up σ2 52 last p) K4 → f_fr H0 K4 → wM_readRule_199 Q (fun l1 l2 l3 l4 H G => wM_readRule_85 Q (rem + 1) l1 l2 l3 l4 H G) f muI c p K4 G := by
          intro K4 a4 f4
          have q27 : (if c = 0 then e3_up σ2 72 (σ2 40 27) p else e3_up σ2 52 last p) 40 27 = r := by split <;> (simp (disch := omega) only [e3_up_self, e3_up_ne]; exact e27)
          have q74 : (if c = 0 then e3_up σ2 72 (σ2 40 27) p else e3_up σ2 52 last p) 74 r = σ 74 r := by split <;> (simp (disch := omega) only [e3_up_self, e3_up_ne]; rw [e74])
          have q55 : (if c = 0 then e3_up σ2 72 (σ2 40 27) p else e3_up σ2 52 last p) 55 p = σ2 55 p := by split <;> simp (disch := omega) only [e3_up_self, e3_up_ne]
          have k4 : K4 40 27 = r := by rw [r_N_f a4.1.2.2.1 27 (by omega)]; exact q27
          have k74 : K4 74 r = σ 74 r := by rw [r_N_at a4.1.2.2.1 74 (by omega)]; exact q74
          have k55 : K4 55 p = σ2 55 p := by rw [r_N_at a4.1.2.2.1 55 (by omega)]; exact q55
          have hm2 : σ 74 r * σ2 55 p ≤ 1000 * 1000 := Int.mul_le_mul h74.2 r2.2 (by omega) (by omega)
          have hm1 : 1 ≤ σ 74 r * σ2 55 p := by
            have := Int.mul_le_mul h74.1 r2.1 (by omega) (by omega)
            omega
          have last4 : ∀ v, v = (if 1000 < σ 74 r * σ2 55 p then 1000 else σ 74 r * σ2 55 p) → wM_readRule_245 Q (fun l1 l2 l3 l4 H G => wM_readRule_85 Q (rem + 1) l1 l2 l3 l4 H G) f muI p c v r K4 G := by
            intro v hv
            unfold wM_readRule_245
            refine ⟨by omega, ?_⟩
            intro H5 e5
            rw [w_p1 (by omega)]
            have eC : a_col1 σ2 c last p = e3_up (if c = 0 then e3_up σ2 72 (σ2 40 27) p else e3_up σ2 52 last p) 74 r v := by
              unfold a_col1 a_mulr
              rw [q27, q74, q55, ← hv]
            have h5 : r_F t n j m (a_col1 σ2 c last p) H5 := by rw [eC, e5]; exact r_F_up a4 (by omega)
            refine ih (c + 1) p j _ H5 (by omega) h5 (by rw [e5]; exact f_up f4 (by omega)) ?_ ?_ c4 c5 (fun _ => by rw [c3]; omega) hok hfl
            · rw [c2.2 68 f (by unfold h_own; omega), e68']; exact h68
            · funext x
              rw [c2.2 69 x (by unfold h_own; omega), e69', h69]
          unfold wM_readRule_199
          rw [k4, k74, k55, e3_w32_id (x := σ 74 r * σ2 55 p) (by omega) (by omega)]
          exact ⟨by omega, by omega, fun hz => last4 1000 (by rw [if_pos hz]), fun hz => last4 _ (by rw [if_neg hz])⟩
        refine ⟨fun hc0 => ?_, fun hc0 => ?_⟩
        · have hc0 : c = 0 := by omega
          rw [k27]
          refine ⟨by omega, ?_⟩
          intro H4 e4
          refine fin H4 ?_ (by rw [e4]; exact f_up (f_rp f2 b3) (by omega))
          rw [if_pos hc0, e27, e4]
          exact r_F_up ⟨a3, b4⟩ (by omega)
        · have hc0 : c ≠ 0 := by omega
          have := hl hc0
          refine ⟨by omega, ?_⟩
          intro H4 e4
          refine fin H4 ?_ (by rw [e4]; exact f_up (f_rp f2 b3) (by omega))
          rw [if_neg hc0, e4]
          exact r_F_up ⟨a3, b4⟩ (by omega)
      unfold wM_readRule_133 wM_readRule_158
      rw [e3_w32_id (x := 3 * f) (by omega) (by omega), e3_w32_id (x := 3 * f + c) (by omega) (by omega), e69]
      refine ⟨by omega, ?_⟩
      cases hm : mu with
      | false =>
        exact brT (by rw [hmu, hm]; rfl) (e159 0 (by rw [hm]; rfl))
      | true =>
        refine brF (by rw [hmu, hm]; decide) ⟨fun hc0 => e159 1 ?_, fun hc0 => e159 0 ?_⟩
        · rw [hm, decide_eq_true (show c = 0 by omega)]; rfl
        · rw [hm, decide_eq_false (show ¬ c = 0 by omega)]; rfl
    show wM_readRule_85 Q (rem + 1 + 1) f muI last c K G
    unfold wM_readRule_85
    rw [e68, h68]
    refine ⟨by omega, brT (by omega) (brT h.1.2.2.2.1 ⟨fun hc0 => ?_, fun hc0 => ?_⟩)⟩
    · unfold wM_readRule_123
      refine cM_isSign h.1.1 (by decide) (fun he => brF (by decide) ?_) (fun he => brT rfl ?_)
      · refine cM_takes h.1.1 h.1.2.1 h.1.2.2.2.1 (by decide) (fun _ K4 a4 b4 => brF (by decide) ?_) (fun hne => absurd he hne)
        refine main (i + 1) K4 (by rw [if_neg (by omega)]) (Or.inr he) ⟨⟨a4, r_in_s h.1.2.1 ⟨by omega, by omega⟩, r_N_tr h.1.2.2.1 b4, by rw [x_N_f b4 7 (by omega)]; exact h.1.2.2.2.1, p_inv_le h.1.2.2.2.2 (by omega)⟩, by have := h.2; omega⟩ (f_N hfr b4)
      · refine cM_stop h.1.2.2.2.1 (by decide) (fun K' hf2 => ?_)
        rw [h.1.1.2.2.1] at hf2
        refine cM_taken hf2.1 (brT rfl (hfl _ ?_ K' (bd_f hfr hf2)))
        unfold a_cols
        rw [if_pos ⟨by omega, he⟩]
    · exact main i K (by rw [if_pos (by omega)]) (Or.inl (by omega)) h hfr
/-- behind a fault nothing is read any more -/
theorem cM_rule278 {Q : e3_H → e3_G → Prop} {f q : Int} {K : e3_H} (hf : 0 ≤ f ∧ f < 12) (hb : r_bd q H0 K) (h27 : 0 ≤ K 40 27 ∧ K 40 27 < 192) (hQ : ∀ K', r_bd q H0 K' → Q K' G) : wM_readRule_278 Q f K G := by
  unfold wM_readRule_278 wM_readGuard
  refine ⟨h27, ?_⟩
  intro H1 e1
  have b1 : r_bd q H0 H1 := by rw [e1]; exact bd_up hb (by omega)
  unfold wM_readGuard_25 wM_readRule_299
  refine brF b1.1 (cM_musted b1.1 (brF b1.1 (cM_musted b1.1 ⟨by omega, by omega, ?_⟩)))
  intro H4 e4
  exact hQ H4 (by rw [e4]; exact bd_up b1 (by omega))
theorem cM_rule299 {Q : e3_H → e3_G → Prop} {f q : Int} {K : e3_H} (hf : 0 ≤ f ∧ f < 12) (hb : r_bd q H0 K) (hQ : ∀ K', r_bd q H0 K' → Q K' G) : wM_readRule_299 Q f K G := by
  unfold wM_readRule_299
  refine cM_musted hb.1 ⟨by omega, by omega, ?_⟩
  intro H4 e4
  exact hQ H4 (by rw [e4]; exact bd_up hb (by omega))
theorem cM_rule {Q : e3_H → e3_G → Prop} {f : Int} {i : Nat} {σ K : e3_H} (h : r_T t n i m σ K) (hfr : f_fr H0 K) (hf : 0 ≤ f ∧ f < 12) (h68 : 1 ≤ σ 68 f ∧ σ 68 f ≤ 3) (h69 : ∀ c : Nat, (c : Int) < σ 68 f → 0 ≤ σ 69 (3 * f + c) ∧ σ 69 (3 * f + c) < 3 + m) (h70 : 0 ≤ σ 70 f ∧ σ 70 f ≤ 16)
    (hok : ∀ j σ2, a_rule t n f i σ = .inr (j, σ2) → ∀ K', r_F t n j m σ2 K' → f_fr H0 K' → Q K' G) (hfl : ∀ q, a_rule t n f i σ = .inl q → ∀ K', r_bd q H0 K' → Q K' G) : wM_readRule Q f K G := by
  have hi := r_i h.1.2.1
  have hrn : 0 ≤ a_rno f σ ∧ a_rno f σ < 192 := by unfold a_rno; split <;> omega
  have e70 : K 70 = σ 70 := r_N_at h.1.2.2.1 70 (by omega)
  have main : ∀ (muI s0 : Int), (muI = if decide (σ 70 f = 16) = true then 1 else 0) → s0 = (if σ 70 f = 16 then 15 else σ 70 f) → wM_readRule_37 Q f muI s0 (16 * f) K G := by
    intro muI s0 hmu hs0
    unfold wM_readRule_37
    have e : 16 * f + s0 = a_rno f σ := by unfold a_rno; rw [hs0]
    rw [e, e3_w32_id (x := a_rno f σ) (by omega) (by omega)]
    generalize hr : a_rno f σ = r at *
    intro H1 e1
    have u1 : H1 40 27 = r := by rw [e1]; simp (disch := omega) only [e3_up_self, e3_up_ne]
    have u5 : H1 40 5 = x_sp t n i := by rw [e1]; simp (disch := omega) only [e3_up_self, e3_up_ne]; exact h.1.1.2.2.1
    rw [u1, u5]
    refine ⟨by omega, ?_⟩
    intro H2 e2
    have u2 : H2 40 27 = r := by rw [e2]; simp (disch := omega) only [e3_up_self, e3_up_ne]; exact u1
    rw [u2]
    refine ⟨by omega, ?_⟩
    intro H4 e4
    intro H6 e6
    have u6 : H6 40 27 = r := by rw [e6, e4]; simp (disch := omega) only [e3_up_self, e3_up_ne]; exact u2
    rw [u6]
    refine ⟨by omega, ?_⟩
    intro H7 e7
    have e7' : H7 = e3_up (e3_up (e3_up (e3_up (e3_up K 40 27 r) 73 r (x_sp t n i)) 56 r 0) 40 31 0) 74 r 1 := by rw [e7, e6, e4, e2, e1]
    have h7 : r_F t n i m (a_rule0 t n r i σ) H7 := by
      unfold a_rule0
      refine ⟨⟨?_, h.1.2.1, ?_, ?_, p_rule0 h.1.2.2.2.2 h.2 hrn⟩, by simp (disch := omega) only [e3_up_self, e3_up_ne]; exact h.2⟩
      · rw [e7']
        exact r_tk_up (r_tk_up (r_tk_up (r_tk_up (r_tk_up h.1.1 (by omega) (by omega)) (by omega) (by omega)) (by omega) (by omega)) (by omega) (by omega)) (by omega) (by omega)
      · rw [e7']
        exact r_N_w _ _ _ (r_N_w _ _ _ (r_N_w _ _ _ (r_N_w _ _ _ (r_N_w _ _ _ h.1.2.2.1))))
      · rw [e7']; simp (disch := omega) only [e3_up_self, e3_up_ne]; exact h.1.2.2.2.1
    have f7 : f_fr H0 H7 := by
      rw [e7']
      exact f_up (f_up (f_up (f_up (f_up hfr (by omega)) (by omega)) (by omega)) (by omega)) (by omega)
    have z27 : a_rule0 t n r i σ 40 27 = r := by unfold a_rule0; simp (disch := omega) only [e3_up_self, e3_up_ne]
    have z74 : a_rule0 t n r i σ 74 r = 1 := by unfold a_rule0; simp (disch := omega) only [e3_up_self, e3_up_ne]
    have z68 : a_rule0 t n r i σ 68 = σ 68 := by funext x; unfold a_rule0; simp (disch := omega) only [e3_up_self, e3_up_ne]
    have z69 : a_rule0 t n r i σ 69 = σ 69 := by funext x; unfold a_rule0; simp (disch := omega) only [e3_up_self, e3_up_ne]
    unfold a_rule at hok hfl
    rw [hr] at hok hfl
    have hc3 : ((σ 68 f).toNat : Int) = σ 68 f := Int.toNat_of_nonneg (by omega)
    refine ⟨(σ 68 f).toNat + 1, cM_cols (S := σ 69) (cols := (σ 68 f).toNat) hmu hf (by omega) (fun c hc => h69 c (by omega)) (σ 68 f).toNat 0 (-4) i _ H7 (by omega) h7 f7 (by rw [z68, hc3]) z69 z27 (by rw [z74]; omega) (fun z => absurd rfl z) (fun j σ1 he K1 a1 b1 => ?_) (fun q he K1 hb => hfl q (by rw [he]) K1 hb)⟩
    obtain ⟨c1, c2, c3, c4, c5, c6⟩ := a_cols_ok (r := r) (p0 := 0) _ _ _ _ _ _ _ he h7.1.2.2.2.2 h7.2 z27 (by rw [z74]; omega) h7.1.2.2.2.2.2.1.1 (fun z => absurd rfl z)
    rw [he] at hok hfl
    unfold wM_readRule_252
    refine brT a1.1.2.2.2.1 (cM_isSign a1.1.1 (by decide) (fun hz => brF (by decide) ?_) (fun hz => brT rfl ?_))
    · refine cM_fl a1.1.2.2.2.1 (by decide) (fun K' hf2 => ?_)
      rw [a1.1.1.2.2.1] at hf2
      simp only [if_pos hz] at hfl
      refine cM_rule278 hf (bd_f b1 hf2) ?_ (hfl _ rfl)
      rw [hf2.2.2.1 27 (by omega) (by omega), r_N_f a1.1.2.2.1 27 (by omega), c4]
      exact hrn
    · simp only [if_neg hz] at hok hfl
      unfold wM_readRule_278
      refine cM_guard a1 b1 (fun j2 σ2 hg hij K2 a2 b2 => ?_) (fun q hg K2 hb => ?_)
      · rw [hg] at hok hfl
        simp only at hok hfl
        refine cM_must a2.1.1 a2.1.2.1 a2.1.2.2.2.1 (by decide) (fun he2 K3 a3 b3 => ?_) (fun he2 K3 hf3 => ?_)
        · rw [if_pos he2] at hok hfl
          have r3 : r_F t n (j2 + 1) m σ2 K3 := ⟨⟨a3, r_in_s a2.1.2.1 ⟨by omega, by omega⟩, r_N_tr a2.1.2.2.1 b3, by rw [x_N_f b3 7 (by omega)]; exact a2.1.2.2.2.1, p_inv_le a2.1.2.2.2.2 (by omega)⟩, by have := a2.2; omega⟩
          refine brT r3.1.2.2.2.1 (cM_answer r3 (f_N b2 b3) (fun j3 σ3 ha K4 a4 b4 => ?_) (fun q ha K4 hb => ?_))
          · rw [ha] at hok hfl
            simp only at hok hfl
            unfold wM_readRule_299
            refine cM_must a4.1.1 a4.1.2.1 a4.1.2.2.2.1 (by decide) (fun he3 K5 a5 b5 => ⟨by omega, by omega, ?_⟩) (fun he3 K5 hf5 => ⟨by omega, by omega, ?_⟩)
            · rw [if_pos he3] at hok
              intro H8 e8
              have r5 : r_F t n (j3 + 1) m σ3 K5 := ⟨⟨a5, r_in_s a4.1.2.1 ⟨by omega, by omega⟩, r_N_tr a4.1.2.2.1 b5, by rw [x_N_f b5 7 (by omega)]; exact a4.1.2.2.2.1, p_inv_le a4.1.2.2.2.2 (by omega)⟩, by have := a4.2; omega⟩
              have g3 := g_tr (g_guard hg) (g_answer ha).1
              have w70 : σ3 70 f = σ 70 f := by rw [g3 70 f (by omega), c6.2 70 f (by unfold h_own; omega)]; unfold a_rule0; simp (disch := omega) only [e3_up_self, e3_up_ne]
              have k70 : K5 70 f = σ3 70 f := by rw [r_N_at r5.1.2.2.1 70 (by omega)]
              rw [k70, e3_w32_id (by omega) (by omega)] at e8
              exact hok _ _ rfl H8 (by rw [e8]; exact r_F_up r5 (by omega)) (by rw [e8]; exact f_up (f_N b4 b5) (by omega))
            · rw [if_neg he3] at hfl
              intro H8 e8
              exact hfl _ rfl H8 (by rw [e8]; exact bd_up (bd_f b4 hf5) (by omega))
          · rw [ha] at hfl
            exact cM_rule299 hf hb (hfl q rfl)
        · rw [if_neg he2] at hfl
          have hb3 := bd_f b2 hf3
          exact brF hb3.1 (cM_rule299 hf hb3 (hfl _ rfl))
      · rw [hg] at hfl
        exact cM_musted hb.1 (brF hb.1 (cM_rule299 hf hb (hfl q rfl)))
  unfold wM_readRule wM_readRule_16
  rw [e70, e3_w32_id (x := 16 * f) (by omega) (by omega)]
  refine ⟨by omega, fun hz => brF (by decide) (main 1 15 (by rw [decide_eq_true hz]; rfl) (by rw [if_pos hz])), fun hz => brT rfl ⟨by omega, main 0 (σ 70 f) (by rw [decide_eq_false hz]; rfl) (by rw [if_neg hz])⟩⟩
end RU
