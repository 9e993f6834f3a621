/-- the stack of open patterns below d is as it was -/
def r_lo (d : Int) (K K2 : e3_H) : Prop := K2 40 32 = K 40 32 ∧ (∀ a k : Int, 59 ≤ a → a ≤ 65 → k < d → K2 a k = K a k) ∧ ∀ k : Int, k < 8 * d → K2 66 k = K 66 k
theorem lo_sc {d : Int} {K K2 : e3_H} (h : r_sc K K2) : r_lo d K K2 := ⟨h.1, fun a k h1 h2 _ => h.2 a k h1 (by omega), fun k _ => h.2 66 k (by omega) (by omega)⟩
theorem lo_tr {d : Int} {K K2 K3 : e3_H} (h : r_lo d K K2) (h2 : r_lo d K2 K3) : r_lo d K K3 := ⟨h2.1.trans h.1, fun a k h1 h3 h4 => (h2.2.1 a k h1 h3 h4).trans (h.2.1 a k h1 h3 h4), fun k h1 => (h2.2.2 k h1).trans (h.2.2 k h1)⟩
theorem lo_le {d e : Int} {K K2 : e3_H} (h : r_lo d K K2) (he : e ≤ d) : r_lo e K K2 := ⟨h.1, fun a k h1 h3 h4 => h.2.1 a k h1 h3 (by omega), fun k h1 => h.2.2 k (by omega)⟩
theorem r_N_s {A B : e3_H} {a j v : Int} (h : r_N A B) (hs : (59 ≤ a ∧ a ≤ 66) ∨ (a = 40 ∧ j = 32)) : r_N A (e3_up B a j v) := by
  intro b k h40 h139 hns
  rw [e3_up_ne (by unfold r_scr at hns; omega)]
  exact h b k h40 h139 hns
section RD
variable {H0 K σ : e3_H} {G : e3_G} {n i m : Nat} {t : Int → Int}
theorem r_P_s {a j v : Int} (h : r_P t n i m σ K) (hs : (59 ≤ a ∧ a ≤ 66) ∨ (a = 40 ∧ j = 32)) : r_P t n i m σ (e3_up K a j v) := ⟨r_tk_up h.1 (by omega) (by omega), h.2.1, r_N_s h.2.2.1 hs, by rw [e3_up_ne (by omega)]; exact h.2.2.2.1, h.2.2.2.2⟩
theorem r_P_55 {q v : Int} (h : r_P t n i m σ K) (hv : 1 ≤ v ∧ v ≤ 1000) : r_P t n i m (e3_up σ 55 q v) (e3_up K 55 q v) := ⟨r_tk_up h.1 (by omega) (by omega), h.2.1, r_N_w _ _ _ h.2.2.1, by rw [e3_up_ne (by omega)]; exact h.2.2.2.1, p_up55 h.2.2.2.2 hv⟩
theorem r_P_31 {v : Int} (h : r_P t n i m σ K) (hv : 0 ≤ v ∧ v < 256) : r_P t n i m (e3_up σ 40 31 v) (e3_up K 40 31 v) := ⟨r_tk_up h.1 (by omega) (by omega), h.2.1, r_N_w _ _ _ h.2.2.1, by rw [e3_up_ne (by omega)]; exact h.2.2.2.1, p_up31 h.2.2.2.2 hv⟩
theorem cM_wanted {Q : Int → e3_H → e3_G → Prop} {p d : Int} (hN : r_N σ K) (hd : K 40 32 = d + 1) (hd0 : 0 ≤ d ∧ d < 7) (hp : K 59 d = p) (hp0 : 0 ≤ p ∧ p < 1700) (h5 : σ 46 p = 5 → (0 ≤ σ 48 p ∧ σ 48 p < 24) ∧ 0 ≤ K 60 d ∧ K 60 d < 4) (hQ : Q (if σ 46 p = 5 then σ 45 (4 * σ 48 p + K 60 d) else σ 47 p) K G) : wM_wanted Q K G := by
  have e46 : K 46 = σ 46 := r_N_at hN 46 (by omega)
  have e47 : K 47 = σ 47 := r_N_at hN 47 (by omega)
  have e48 : K 48 = σ 48 := r_N_at hN 48 (by omega)
  have e45 : K 45 = σ 45 := r_N_at hN 45 (by omega)
  unfold wM_wanted wM_wanted_56
  rw [hd, e3_w32_id (x := d + 1 - 1) (by omega) (by omega), show d + 1 - 1 = d by omega, hp, e46, e47, e48, e45]
  refine ⟨by omega, by omega, ?_⟩
  by_cases c : σ 46 p = 5
  · rw [if_pos c] at hQ
    have := h5 c
    refine brT c ⟨by omega, by omega, ?_⟩
    rw [e3_w32_id (x := 4 * σ 48 p) (by omega) (by omega), e3_w32_id (x := 4 * σ 48 p + K 60 d) (by omega) (by omega)]
    exact ⟨by omega, hQ⟩
  · rw [if_neg c] at hQ
    exact brF c ⟨by omega, hQ⟩
theorem cM_comesInto {Q : e3_H → e3_G → Prop} {p q d last jj : Int} (h : r_P t n i m σ K) (hfr : rp_fr H0 K) (hd : K 40 32 = d + 1) (hd0 : 0 ≤ d ∧ d < 7) (h59 : K 59 d = p) (h60 : K 60 d = jj) (h61 : K 61 d = last) (hj : 0 ≤ jj ∧ jj < 8) (hp0 : 0 ≤ p ∧ p < σ 40 16) (hq0 : 0 ≤ q ∧ q < σ 40 16) (hl : last = -4 ∨ (0 ≤ last ∧ last < σ 40 16)) (h16 : σ 40 16 ≤ 1700)
    (hQ : ∀ K', r_P t n i m (a_into σ p last q) K' → rp_fr H0 K' → r_lo d K K' → (∀ a : Int, 59 ≤ a → a ≤ 65 → a ≠ 60 → a ≠ 61 → K' a d = K a d) → (∀ k : Int, K' 66 k = K 66 k) → K' 60 d = jj + 1 → K' 61 d = q → Q K' G) : wM_comesInto Q q K G := by
  have hN := h.2.2.1
  have e46 : K 46 = σ 46 := r_N_at hN 46 (by omega)
  have e55 : K 55 = σ 55 := r_N_at hN 55 (by omega)
  have r1 := h.2.2.2.2.2.2.2.2.2 p hp0.1 hp0.2
  have r2 := h.2.2.2.2.2.2.2.2.2 q hq0.1 hq0.2
  have fin : ∀ K1, r_P t n i m (a_into σ p last q) K1 → rp_fr H0 K1 → r_sc K K1 → wM_comesInto_122 Q q d K1 G := by
    intro K1 a b c
    unfold wM_comesInto_122
    refine ⟨by omega, ?_⟩
    intro H1 e1
    refine ⟨by omega, by omega, ?_⟩
    intro H3 e3
    have e60 : H1 60 d = jj := by rw [e1]; simp (disch := omega) only [e3_up_self, e3_up_ne]; rw [c.2 60 d (by omega) (by omega)]; exact h60
    rw [e60, e3_w32_id (by omega) (by omega), e1] at e3
    rw [e3]
    refine hQ _ (r_P_s (r_P_s a (by omega)) (by omega)) (rp_up (rp_up b (by omega)) (by omega)) ⟨by simp (disch := omega) only [e3_up_self, e3_up_ne]; exact c.1, fun a k h1 h2 h3 => by simp (disch := omega) only [e3_up_self, e3_up_ne]; exact c.2 a k h1 (by omega), fun k h1 => by simp (disch := omega) only [e3_up_self, e3_up_ne]; exact c.2 66 k (by omega) (by omega)⟩ (fun a h1 h2 h3 h4 => by simp (disch := omega) only [e3_up_self, e3_up_ne]; exact c.2 a d h1 (by omega)) (fun k => by simp (disch := omega) only [e3_up_self, e3_up_ne]; exact c.2 66 k (by omega) (by omega)) (by simp (disch := omega) only [e3_up_self, e3_up_ne]) (by simp (disch := omega) only [e3_up_self, e3_up_ne])
  unfold wM_comesInto
  rw [hd, e3_w32_id (x := d + 1 - 1) (by omega) (by omega), show d + 1 - 1 = d by omega, h59, h61]
  refine ⟨by omega, by omega, ?_⟩
  unfold a_into at fin
  by_cases c : last = -4
  · rw [if_pos c] at fin
    refine brT c ⟨by omega, ?_⟩
    intro H3 e3
    refine ⟨by omega, by omega, ?_⟩
    intro H5 e5
    have e : H3 55 q = σ 55 q := by rw [e3]; simp (disch := omega) only [e3_up_self, e3_up_ne]; rw [e55]
    rw [e, e3] at e5
    rw [e5]
    exact fin _ (r_P_55 (r_P_up h (by omega)) r2) (rp_up (rp_up hfr (by omega)) (by omega)) (sc_up (sc_up (sc_rf K) (by omega)) (by omega))
  · rw [if_neg c] at fin
    refine brF c ⟨by omega, by omega, ?_⟩
    intro H8 e8
    have e : ∀ x, H8 55 x = σ 55 x := by intro x; rw [e8]; simp (disch := omega) only [e3_up_self, e3_up_ne]; rw [e55]
    have e2 : H8 46 p = σ 46 p := by rw [e8]; simp (disch := omega) only [e3_up_self, e3_up_ne]; rw [e46]
    rw [e, e, e2]
    have hm1 : 1 ≤ σ 55 p * σ 55 q := by
      have := Int.mul_le_mul r1.1 r2.1 (by omega) (by omega)
      omega
    have hm2 : σ 55 p * σ 55 q ≤ 1000 * 1000 := Int.mul_le_mul r1.2 r2.2 (by omega) (by omega)
    have last3 : ∀ x, x = (if σ 46 p = 5 then σ 55 p * σ 55 q else σ 55 p + σ 55 q) → wM_comesInto_98 Q q d p x H8 G := by
      intro x hx
      unfold wM_comesInto_98 wM_comesInto_121
      have am := a_mul_ok (k := σ 46 p) r1.1 r2.1
      unfold a_mul at am
      rw [← hx] at fin am
      refine ⟨fun hz => ?_, fun hz => ?_⟩
      · rw [if_pos hz] at fin am
        refine ⟨by omega, ?_⟩
        intro H1 e1
        rw [e8] at e1
        rw [e1]
        exact fin _ (r_P_55 (r_P_up h (by omega)) am) (rp_up (rp_up hfr (by omega)) (by omega)) (sc_up (sc_up (sc_rf K) (by omega)) (by omega))
      · rw [if_neg hz] at fin am
        refine ⟨by omega, ?_⟩
        intro H1 e1
        rw [e8] at e1
        rw [e1]
        exact fin _ (r_P_55 (r_P_up h (by omega)) am) (rp_up (rp_up hfr (by omega)) (by omega)) (sc_up (sc_up (sc_rf K) (by omega)) (by omega))
    refine ⟨by omega, fun hz => ⟨by omega, by omega, ?_⟩, fun hz => ⟨by omega, by omega, ?_⟩⟩
    · rw [e3_w32_id (by omega) (by omega)]
      exact last3 _ (by rw [if_pos hz])
    · rw [e3_w32_id (by omega) (by omega)]
      exact last3 _ (by rw [if_neg hz])
/-- behind the first alternative: what it binds is kept -/
theorem cM_ends1 {Q : e3_H → e3_G → Prop} {d : Int} (h : r_P t n i m σ K) (hfr : rp_fr H0 K) (hd : K 40 32 = d + 1) (hd0 : 0 ≤ d ∧ d < 7) (h60 : K 60 d = 1)
    (hQ : ∀ K', r_P t n i m σ K' → rp_fr H0 K' → r_lo d K K' → (∀ a : Int, 59 ≤ a → a ≤ 65 → a ≠ 64 → K' a d = K a d) → K' 64 d = σ 40 31 → (∀ k : Nat, k < 8 → K' 66 (8 * d + k) = σ 58 (8 * σ 40 27 + k)) → Q K' G) : wM_endsAlternative Q K G := by
  have h27 := h.2.2.2.2.2.2.1
  have e31 : K 40 31 = σ 40 31 := r_N_f h.2.2.1 31 (by omega)
  unfold wM_endsAlternative
  rw [hd, e3_w32_id (x := d + 1 - 1) (by omega) (by omega), show d + 1 - 1 = d by omega]
  refine ⟨by omega, brT h60 ⟨by omega, ?_⟩⟩
  intro H2 e2
  rw [e31] at e2
  have key : ∀ (f k : Nat) (K1 : e3_H), k + f = 8 → r_P t n i m σ K1 → rp_fr H0 K1 → r_lo d K K1 → (∀ a : Int, 59 ≤ a → a ≤ 65 → a ≠ 64 → K1 a d = K a d) → K1 64 d = σ 40 31 → (∀ j : Nat, j < k → K1 66 (8 * d + j) = σ 58 (8 * σ 40 27 + j)) → wM_endsAlternative_29 Q (f + 1) d k K1 G := by
    intro f
    induction f with
    | zero =>
      intro k K1 hk a b c e f g
      unfold wM_endsAlternative_29 wM_endsAlternative_201
      have : k = 8 := by omega
      subst this
      exact brF (by omega) (hQ K1 a b c e f (fun j hj => g j hj))
    | succ f ih =>
      intro k K1 hk a b c e f g
      have e27 : K1 40 27 = σ 40 27 := r_N_f a.2.2.1 27 (by omega)
      have e58 : K1 58 = σ 58 := r_N_at a.2.2.1 58 (by omega)
      show wM_endsAlternative_29 Q (_ + 1 + 1) d k K1 G
      unfold wM_endsAlternative_29
      rw [e27, e58, e3_w32_id (x := 8 * σ 40 27) (by omega) (by omega), e3_w32_id (x := 8 * d) (by omega) (by omega), e3_w32_id (x := 8 * σ 40 27 + k) (by omega) (by omega), e3_w32_id (x := 8 * d + k) (by omega) (by omega)]
      refine brT (by omega) ⟨by omega, by omega, ?_⟩
      intro H1 e1
      rw [w_p1 (by omega), e1]
      refine ih (k + 1) _ (by omega) (r_P_s a (by omega)) (rp_up b (by omega)) ⟨by simp (disch := omega) only [e3_up_self, e3_up_ne]; exact c.1, fun a k h1 h2 h3 => by simp (disch := omega) only [e3_up_self, e3_up_ne]; exact c.2.1 a k h1 h2 h3, fun k h1 => by simp (disch := omega) only [e3_up_self, e3_up_ne]; exact c.2.2 k h1⟩ (fun a h1 h2 h3 => by simp (disch := omega) only [e3_up_self, e3_up_ne]; exact e a h1 h2 h3) (by simp (disch := omega) only [e3_up_self, e3_up_ne]; exact f) (fun j hj => ?_)
      by_cases hz : j = k
      · subst hz; simp (disch := omega) only [e3_up_self, e3_up_ne]
      · simp (disch := omega) only [e3_up_self, e3_up_ne]; exact g j (by omega)
  refine ⟨9, ?_⟩
  rw [e2]
  exact key 8 0 _ (by omega) (r_P_s h (by omega)) (rp_up hfr (by omega)) ⟨by simp (disch := omega) only [e3_up_self, e3_up_ne], fun a k h1 h2 h3 => by simp (disch := omega) only [e3_up_self, e3_up_ne], fun k h1 => by simp (disch := omega) only [e3_up_self, e3_up_ne]⟩ (fun a h1 h2 h3 => by simp (disch := omega) only [e3_up_self, e3_up_ne]) (by simp (disch := omega) only [e3_up_self, e3_up_ne]) (fun j hj => by omega)
/-- behind another one: is it unlike the first -/
theorem cM_ends2 {Q : e3_H → e3_G → Prop} {d b0 fst : Int} {un : Bool} {srt : Nat → Int} (h : r_P t n i m σ K) (hfr : rp_fr H0 K) (hd : K 40 32 = d + 1) (hd0 : 0 ≤ d ∧ d < 7) (h60 : K 60 d ≠ 1) (h63 : K 63 d = b0) (hb0 : 0 ≤ b0 ∧ b0 < 256) (h64 : K 64 d = fst) (h65 : K 65 d = if un = true then 1 else 0) (h66 : ∀ k : Nat, k < 8 → K 66 (8 * d + k) = srt k)
    (hQ : ∀ K', r_P t n i m σ K' → rp_fr H0 K' → r_lo d K K' → (∀ a : Int, 59 ≤ a → a ≤ 65 → a ≠ 65 → K' a d = K a d) → (∀ k : Int, K' 66 k = K 66 k) → (K' 65 d = if (un || a_unl σ b0 fst srt 8) = true then 1 else 0) → Q K' G) : wM_endsAlternative Q K G := by
  have h27 := h.2.2.2.2.2.2.1
  have h31 := h.2.2.2.2.2.2.2.2.1
  have e31 : K 40 31 = σ 40 31 := r_N_f h.2.2.1 31 (by omega)
  have e27 : K 40 27 = σ 40 27 := r_N_f h.2.2.1 27 (by omega)
  have e58 : K 58 = σ 58 := r_N_at h.2.2.1 58 (by omega)
  have fin : ∀ (v : Int) (b : Bool), (un || a_unl σ b0 fst srt 8) = b → v = (if b = true then 1 else 0) → e3_and v 1 = v → wM_endsAlternative_200 Q v d K G := by
    intro v b hb hv hv2
    unfold wM_endsAlternative_200 wM_endsAlternative_201
    refine ⟨by omega, ?_⟩
    intro H1 e1
    rw [hv2] at e1
    rw [e1]
    exact hQ _ (r_P_s h (by omega)) (rp_up hfr (by omega)) ⟨by simp (disch := omega) only [e3_up_self, e3_up_ne], fun a k h1 h2 h3 => by simp (disch := omega) only [e3_up_self, e3_up_ne], fun k h1 => by simp (disch := omega) only [e3_up_self, e3_up_ne]⟩ (fun a h1 h2 h3 => by simp (disch := omega) only [e3_up_self, e3_up_ne]) (fun k => by simp (disch := omega) only [e3_up_self, e3_up_ne]) (by rw [hb, ← hv]; simp (disch := omega) only [e3_up_self, e3_up_ne])
  have key : ∀ (f k : Nat) (x : Int), k + f = 8 → (x = if a_unl σ b0 fst srt k = true then 1 else 0) → wM_endsAlternative_90 Q (f + 1) d x k K G := by
    intro f
    induction f with
    | zero =>
      intro k x hk hx
      have : k = 8 := by omega
      subst this
      unfold wM_endsAlternative_90 wM_endsAlternative_195
      refine brF (by omega) ⟨by omega, ?_⟩
      rw [h65]
      cases hu : un with
      | true =>
        refine brF (by simp) (fin 1 true (by rw [hu]; rfl) (by simp) (by decide))
      | false =>
        refine brT (by simp) ?_
        cases ha : a_unl σ b0 fst srt 8 with
        | true => exact brF (by rw [hx, ha]; simp) (fin 1 true (by rw [hu, ha]; rfl) (by simp) (by decide))
        | false => exact brT (by rw [hx, ha]; simp) (fin 0 false (by rw [hu, ha]; rfl) (by simp) (by decide))
    | succ f ih =>
      intro k x hk hx
      have hb1 := b_ok (k := k) h31 (by omega)
      have hb2 := b_ok (k := k) hb0 (by omega)
      have next : ∀ y, (y = if a_unl σ b0 fst srt (k + 1) = true then 1 else 0) → wM_endsAlternative_90 Q (f + 1) d y (e3_w32 ((k : Int) + 1)) K G := by
        intro y hy
        rw [w_p1 (by omega)]
        exact ih (k + 1) y (by omega) hy
      have e126 : ∀ (own : Bool), own = (b_bit (σ 40 31) k && !(b_bit b0 k)) → wM_endsAlternative_126 Q (fun l1 l2 l3 H G => wM_endsAlternative_90 Q (f + 1) l1 l2 l3 H G) d x k (if own = true then 1 else 0) K G := by
        intro own ho
        have hun : a_unl σ b0 fst srt (k + 1) = (a_unl σ b0 fst srt k || (own && decide (srt k ≠ σ 58 (8 * σ 40 27 + k)))) := by rw [ho]; rfl
        unfold wM_endsAlternative_126 wM_endsAlternative_169 wM_endsAlternative_165 wM_endsAlternative_170
        cases ha : a_unl σ b0 fst srt k with
        | true =>
          refine brF (by rw [hx, ha]; simp) (next 1 (by rw [hun, ha]; simp))
        | false =>
          refine brT (by rw [hx, ha]; simp) ?_
          cases hw : own with
          | false => exact brT (by simp) (next 0 (by rw [hun, ha, hw]; simp))
          | true =>
            refine brF (by simp) ?_
            rw [e27, e58, e3_w32_id (x := 8 * σ 40 27) (by omega) (by omega), e3_w32_id (x := 8 * d) (by omega) (by omega), e3_w32_id (x := 8 * σ 40 27 + k) (by omega) (by omega), e3_w32_id (x := 8 * d + k) (by omega) (by omega), h66 k (by omega)]
            refine ⟨by omega, by omega, fun hz => next 0 (by rw [hun, ha, hw]; simp [hz]), fun hz => next 1 (by rw [hun, ha, hw]; simp [hz])⟩
      show wM_endsAlternative_90 Q (f + 1 + 1) d x k K G
      unfold wM_endsAlternative_90
      rw [e31, h63]
      refine brT (by omega) ⟨fun hz => ⟨by omega, fun hz2 => ?_, fun hz2 => ?_⟩, fun hz => ?_⟩
      · exact e126 true (by rw [hb1.1.mp hz, hb2.2.1.mp hz2]; rfl)
      · have : b_bit b0 k = true := by
          cases hq : b_bit b0 k with
          | true => rfl
          | false => exact absurd (hb2.2.1.mpr hq) hz2
        exact e126 false (by rw [this]; simp)
      · have : b_bit (σ 40 31) k = false := by
          cases hq : b_bit (σ 40 31) k with
          | false => rfl
          | true => exact absurd (hb1.1.mpr hq) hz
        exact e126 false (by rw [this]; simp)
  unfold wM_endsAlternative wM_endsAlternative_87
  rw [hd, e3_w32_id (x := d + 1 - 1) (by omega) (by omega), show d + 1 - 1 = d by omega, e31, h64]
  refine ⟨by omega, brF h60 ⟨by omega, fun hz => ⟨9, ?_⟩, fun hz => ⟨9, ?_⟩⟩⟩
  · exact key 8 0 0 (by omega) (by unfold a_unl; simp [hz])
  · exact key 8 0 1 (by omega) (by unfold a_unl; simp [hz])
end RD
