theorem x_tk_num (b : Int → Int) (n p : Nat) (h : (x_tk b n p).1 = 260) : 0 ≤ (x_tk b n p).2.2 ∧ (x_tk b n p).2.2 < 1000000000 := by
  unfold x_tk at *
  by_cases c1 : n ≤ p
  · rw [if_pos c1] at h; cases h
  rw [if_neg c1] at h ⊢
  by_cases c2 : x_sm (b p) = true ∨ x_up (b p) = true
  · rw [if_pos c2] at h
    exfalso
    split at h
    · cases h
    · have := x_wx_dom (x_pk b p (x_sc x_an b n n (p + 1) - p))
      simp only at h
      split at h
      · split at h <;> omega
      · omega
  rw [if_neg c2] at h ⊢
  by_cases c3 : x_fg (b p) = true
  · rw [if_pos c3] at h ⊢
    by_cases c4 : 9 < x_sc x_fg b n n p - p
    · rw [if_pos c4] at h; cases h
    · rw [if_neg c4]
      exact x_nm_9 (by omega) (fun i hi => (x_sc_all x_fg b n n p (p + i) (by omega) (by omega)).2)
  rw [if_neg c3] at h ⊢
  by_cases c4 : b p = 39
  · rw [if_pos c4] at h
    exfalso
    split at h <;> cases h
  rw [if_neg c4] at h ⊢
  by_cases c5 : b p = 46 ∧ p + 1 < n ∧ b ((p + 1 : Nat) : Int) = 46
  · rw [if_pos c5] at h; cases h
  rw [if_neg c5] at h ⊢
  by_cases c6 : x_sg (b p) = true
  · rw [if_pos c6] at h
    have := x_sg_pos c6
    simp only at h
    omega
  · rw [if_neg c6] at h; cases h
theorem x_wo_num {t : Int → Int} {n i : Nat} (h : x_ty t n i = 260) : 0 ≤ x_wo t n i ∧ x_wo t n i < 1000000000 := x_tk_num t n _ h
theorem p_inv_le {σ : e3_H} {m i j : Nat} (h : p_inv σ m i) (hij : i ≤ j) : p_inv σ m j := ⟨h.1, ⟨h.2.1.1, by have := h.2.1.2; omega⟩, h.2.2⟩
theorem p_inv_up {σ : e3_H} {m i : Nat} {a j v : Int} (h : p_inv σ m i) (ha : (46 ≤ a ∧ a ≤ 54) ∨ a = 57 ∨ a = 58) : p_inv (e3_up σ a j v) m i := by
  obtain ⟨hk, h16, h27, h56, h31, h55⟩ := h
  have e16 : e3_up σ a j v 40 16 = σ 40 16 := e3_up_ne (by omega)
  have e27 : e3_up σ a j v 40 27 = σ 40 27 := e3_up_ne (by omega)
  have e31 : e3_up σ a j v 40 31 = σ 40 31 := e3_up_ne (by omega)
  refine ⟨k_inv_up hk (by omega), by rw [e16]; exact h16, by rw [e27]; exact h27, by rw [e27, e3_up_ne (by omega)]; exact h56, by rw [e31]; exact h31, ?_⟩
  intro q h0 hq
  rw [e16] at hq
  rw [e3_up_ne (by omega)]
  exact h55 q h0 hq
def r_bad (q : Int) (H0 K : e3_H) : Prop := K 40 7 ≠ 0 ∧ K 40 8 = q ∧ rp_fr H0 K
section RP2
variable {H0 K σ : e3_H} {G : e3_G} {n i m : Nat} {t : Int → Int}
theorem r_P_up {a j v : Int} (h : r_P t n i m σ K) (ha : (46 ≤ a ∧ a ≤ 54) ∨ a = 57 ∨ a = 58) : r_P t n i m (e3_up σ a j v) (e3_up K a j v) := ⟨r_tk_up h.1 (by omega) (by omega), h.2.1, r_N_w _ _ _ h.2.2.1, by rw [e3_up_ne (by omega)]; exact h.2.2.2.1, p_inv_up h.2.2.2.2 ha⟩
theorem r_P_nx {Q : e3_H → e3_G → Prop} (h : r_P t n i m σ K) (hfr : rp_fr H0 K) (hf : x_nf t n i) (hQ : ∀ K', r_P t n (i + 1) m σ K' → x_N K K' → rp_fr H0 K' → Q K' G) : wM_next Q K G := cM_nxt h.1 h.2.1 hf (fun K' a b => hQ K' ⟨a, r_in_s h.2.1 hf, r_N_tr h.2.2.1 b, by rw [x_N_f b 7 (by omega)]; exact h.2.2.2.1, p_inv_le h.2.2.2.2 (by omega)⟩ b (rp_N hfr b))
theorem cM_number {Q : Int → e3_H → e3_G → Prop} (h : r_P t n i m σ K) (hfr : rp_fr H0 K) (hok : ∀ j x, a_num t n i = .inr (j, x) → i < j → -1000000000 < x → x < 1000000000 → ∀ K', r_P t n j m σ K' → x_N K K' → rp_fr H0 K' → Q x K' G) (hfl : ∀ q, a_num t n i = .inl q → ∀ x K', r_bad q H0 K' → Q x K' G) : wM_number Q K G := by
  have fin : ∀ (x : Int) (K' : e3_H) (q : Int), a_num t n i = .inl q → r_bad q H0 K' → wM_number_27 Q x K' G := by
    intro x K' q hq hb
    unfold wM_number_27 wM_number_44 wM_number_54
    exact brF hb.1 ⟨fun _ => hfl q hq _ K' hb, fun _ => hfl q hq _ K' hb⟩
  have main : ∀ (x : Int) (j : Nat) (K1 : e3_H), (x = 0 ∧ j = i ∧ x_ty t n i ≠ 45) ∨ (x = 1 ∧ j = i + 1 ∧ x_ty t n i = 45) → r_P t n j m σ K1 → rp_fr H0 K1 → (K1 = K ∨ x_N K K1) → ((((K1 40 3) : Int) = 3 → (wM_number_27 Q x K1 G)) ∧ (¬ (((K1 40 3) : Int) = 3) → (wM_stop (fun H4 G5 => (wM_number_27 Q x H4 G5)) 2 K1 G))) := by
    intro x j K1 hx h1 hfr1 hN1
    have hN2 : x_N K K1 := by rcases hN1 with z | z; rw [z]; exact x_N_rf K; exact z
    refine ⟨fun h3 => ?_, fun h3 => ?_⟩
    · have hty := (r_so h1.1).2.2.2.2.1.mp h3
      have hb := x_wo_num hty
      have e4 := (r_va h1.1 (by omega)).1 (by omega) (by omega)
      unfold wM_number_27 wM_number_44 wM_number_54
      rw [e4, e3_w32_id (x := x_wo t n j) (by omega) (by omega)]
      refine brT h1.2.2.2.1 (r_P_nx h1 hfr1 ⟨by omega, by omega⟩ (fun K' a b c => ?_))
      have bb := x_N_tr hN2 b
      rcases hx with ⟨e1, e2, e3⟩ | ⟨e1, e2, e3⟩
      · subst e2
        refine brT e1 (hok _ _ ?_ (by omega) (by omega) (by omega) K' a bb c)
        unfold a_num
        rw [if_neg e3, if_pos hty]
      · subst e2
        refine brF (by omega) ?_
        rw [e3_w32_id (by omega) (by omega)]
        refine hok _ _ ?_ (by omega) (by omega) (by omega) K' a bb c
        unfold a_num
        rw [if_pos e3, if_pos hty]
    · refine cM_stop h1.2.2.2.1 (by decide) (fun K' hf => ?_)
      rw [h1.1.2.2.1] at hf
      refine fin x K' _ ?_ ⟨hf.1, hf.2.1, rp_f hfr1 hf⟩
      have hno : x_ty t n j ≠ 260 := fun z => h3 ((r_so h1.1).2.2.2.2.1.mpr z)
      rcases hx with ⟨e1, e2, e3⟩ | ⟨e1, e2, e3⟩
      · subst e2
        unfold a_num
        rw [if_neg e3, if_neg hno]
      · subst e2
        unfold a_num
        rw [if_pos e3, if_neg hno]
  unfold wM_number
  refine cM_takes h.1 h.2.1 h.2.2.2.1 (by decide) (fun he K1 a b => ?_) (fun he => ?_)
  · have z : K1 40 7 = 0 := by rw [x_N_f b 7 (by omega)]; exact h.2.2.2.1
    exact brT z (main 1 (i + 1) K1 (Or.inr ⟨rfl, rfl, he⟩) ⟨a, r_in_s h.2.1 ⟨by omega, by omega⟩, r_N_tr h.2.2.1 b, z, p_inv_le h.2.2.2.2 (by omega)⟩ (rp_N hfr b) (Or.inr b))
  · exact brT h.2.2.2.1 (main 0 i K (Or.inl ⟨rfl, rfl, he⟩) h hfr (Or.inl rfl))
theorem cM_range {Q : e3_H → e3_G → Prop} {p pl : Int} (h : r_P t n i m σ K) (hfr : rp_fr H0 K) (hp : 0 ≤ p ∧ p < 1700) (hok : ∀ j σ2 p2, a_rng t n p pl i σ = .inr (j, σ2, p2) → ∀ K', r_P t n j m σ2 K' → i < j → rp_fr H0 K' → r_sc K K' → Q K' G) (hfl : ∀ q, a_rng t n p pl i σ = .inl q → ∀ K', r_bad q H0 K' → Q K' G) : wM_range Q p pl K G := by
  unfold wM_range wM_range_75
  refine cM_number h hfr (fun j x he hij hx1 hx2 K1 a aN c => ?_) (fun q he x K1 hb => ?_)
  · refine ⟨by omega, ?_⟩
    intro H4 e4
    refine ⟨by omega, by omega, ?_⟩
    intro H6 e6
    have f48 : H4 48 p = x := by rw [e4, e3_up_self]
    rw [f48] at e6
    have a6 : r_P t n j m (e3_up (e3_up σ 48 p x) 49 p x) H6 := by rw [e6, e4]; exact r_P_up (r_P_up a (by omega)) (by omega)
    have c6 : rp_fr H0 H6 := by rw [e6, e4]; exact rp_up (rp_up c (by omega)) (by omega)
    have s6 : H6 40 32 = K 40 32 := by rw [e6, e3_up_ne (by omega), e4, e3_up_ne (by omega)]; exact aN.1 32 (by omega)
    have s6' : ∀ a k : Int, 59 ≤ a → a ≤ 66 → H6 a k = K a k := by
      intro b k hb1 hb2
      rw [e6, e3_up_ne (by omega), e4, e3_up_ne (by omega), x_N_at aN b (by omega)]
    refine brT a6.2.2.2.1 (cM_isDots a6.1 (fun hd => brF (by decide) ?_) (fun hd => brT rfl ?_))
    · refine r_P_nx a6 c6 ⟨by omega, by omega⟩ (fun K7 a7 b7 c7 => ?_)
      refine cM_number a7 c7 (fun j2 y he2 hij2 hy1 hy2 K8 a8 aN8 c8 => ?_) (fun q he2 y K8 hb => ?_)
      · refine ⟨by omega, ?_⟩
        intro H18 e18
        refine ⟨by omega, by omega, ?_⟩
        have hN8 := x_N_tr b7 aN8
        have g48 : H18 48 p = x := by rw [e18, e3_up_ne (by omega), x_N_at hN8 48 (by decide), e6, e3_up_ne (by omega), f48]
        have g49 : H18 49 p = y := by rw [e18, e3_up_self]
        rw [g48, g49]
        have a18 : r_P t n j2 m (e3_up (e3_up (e3_up σ 48 p x) 49 p x) 49 p y) H18 := by rw [e18]; exact r_P_up a8 (by omega)
        have c18 : rp_fr H0 H18 := by rw [e18]; exact rp_up c8 (by omega)
        refine ⟨fun hlt => ?_, fun hlt => ?_⟩
        · refine cM_fl a18.2.2.2.1 (by decide) (fun K9 hf => ?_)
          refine hfl pl ?_ K9 ⟨hf.1, hf.2.1, rp_f c18 hf⟩
          unfold a_rng
          rw [he]
          simp only
          rw [if_pos hd, he2]
          simp only
          rw [if_pos hlt]
        · refine hok j2 _ p ?_ H18 a18 (by omega) c18 ⟨?_, ?_⟩
          · unfold a_rng
            rw [he]
            simp only
            rw [if_pos hd, he2]
            simp only
            rw [if_neg hlt]
          · rw [e18, e3_up_ne (by omega), hN8.1 32 (by omega), s6]
          · intro b k hb1 hb2
            rw [e18, e3_up_ne (by omega), x_N_at hN8 b (by omega), s6' b k hb1 hb2]
      · refine ⟨by omega, ?_⟩
        intro H18 e18
        refine ⟨by omega, by omega, ?_⟩
        have hz : H18 40 7 ≠ 0 := by rw [e18, e3_up_ne (by omega)]; exact hb.1
        have bad : r_bad q H0 H18 := ⟨hz, by rw [e18, e3_up_ne (by omega)]; exact hb.2.1, by rw [e18]; exact rp_up hb.2.2 (by omega)⟩
        have hq := hfl q (by
          unfold a_rng
          rw [he]
          simp only
          rw [if_pos hd, he2]) H18 bad
        exact ⟨fun _ => cM_failed hz hq, fun _ => hq⟩
    · refine hok j _ p ?_ H6 a6 hij c6 ⟨s6, s6'⟩
      unfold a_rng
      rw [he]
      simp only
      rw [if_neg hd]
  · refine ⟨by omega, ?_⟩
    intro H4 e4
    refine ⟨by omega, by omega, ?_⟩
    intro H6 e6
    have hz : H6 40 7 ≠ 0 := by rw [e6, e3_up_ne (by omega), e4, e3_up_ne (by omega)]; exact hb.1
    refine brF hz (hfl q ?_ H6 ⟨hz, by rw [e6, e3_up_ne (by omega), e4, e3_up_ne (by omega)]; exact hb.2.1, by rw [e6, e4]; exact rp_up (rp_up hb.2.2 (by omega)) (by omega)⟩)
    unfold a_rng
    rw [he]
theorem cM_readAs {Q : e3_H → e3_G → Prop} {p : Int} (h : r_P t n i m σ K) (hfr : rp_fr H0 K) (hp : 0 ≤ p ∧ p < 1700) (hok : ∀ j σ2 p2, a_as t n (.inr (i, σ, p)) = .inr (j, σ2, p2) → ∀ K', r_P t n j m σ2 K' → i ≤ j → rp_fr H0 K' → r_sc K K' → Q K' G) (hfl : ∀ q, a_as t n (.inr (i, σ, p)) = .inl q → ∀ K', r_bad q H0 K' → Q K' G) : wM_readAs Q p K G := by
  unfold a_as at hok hfl
  simp only at hok hfl
  unfold wM_readAs wM_readAs_51 wM_readAs_62
  refine brT h.2.2.2.1 (cM_isWord h.1 (by decide) (fun he => brF (by decide) ?_) (fun he => brT rfl ?_))
  · rw [if_pos (by omega)] at hok hfl
    refine r_P_nx h hfr ⟨by omega, by omega⟩ (fun K1 a b c => ?_)
    refine ⟨fun h1 => ?_, fun h1 => ?_⟩
    · have hty := (r_so a.1).2.2.1.mp h1
      rw [if_pos hty] at hok hfl
      refine ⟨by omega, ?_⟩
      rw [r_N_at a.2.2.1 47 (by omega)]
      refine cM_binds a hty c (fun k σ2 hb K2 a2 c2 s2 => ?_) (fun hb K2 hf => ?_)
      · rw [hb] at hok
        simp only at hok
        refine ⟨by omega, ?_⟩
        intro H11 e11
        have a3 : r_P t n (i + 1) m (e3_up σ2 54 p k) H11 := by rw [e11]; exact r_P_up a2 (by omega)
        have c3 : rp_fr H0 H11 := by rw [e11]; exact rp_up c2 (by omega)
        refine brT a3.2.2.2.1 (r_P_nx a3 c3 ⟨by omega, by omega⟩ (fun K4 a4 b4 c4 => ?_))
        exact hok _ _ _ rfl K4 a4 (by omega) c4 (sc_N (by rw [e11]; exact sc_up (sc_tr (sc_N (sc_rf K) b) s2) (by omega)) b4)
      · rw [hb] at hfl
        simp only at hfl
        refine ⟨by omega, ?_⟩
        intro H11 e11
        have hz : H11 40 7 ≠ 0 := by rw [e11, e3_up_ne (by omega)]; exact hf.1
        refine brF hz (hfl _ rfl H11 ⟨hz, by rw [e11, e3_up_ne (by omega)]; exact hf.2.1, by rw [e11]; exact rp_up (rp_f c hf) (by omega)⟩)
    · have hno : ¬ x_ty t n (i + 1) = 258 := fun z => h1 ((r_so a.1).2.2.1.mpr z)
      rw [if_neg hno] at hfl
      refine cM_stop a.2.2.2.1 (by decide) (fun K2 hf => ?_)
      rw [a.1.2.2.1] at hf
      exact brF hf.1 (hfl _ rfl K2 ⟨hf.1, hf.2.1, rp_f c hf⟩)
  · rw [if_neg (by omega)] at hok
    exact hok _ _ _ rfl K h (by omega) hfr (sc_rf K)
end RP2
