/-- guards and answers write their own tables alone -/
def g_fr (σ σ2 : e3_H) : Prop := ∀ a k : Int, a < 75 ∨ 85 < a → σ2 a k = σ a k
theorem g_rf (σ : e3_H) : g_fr σ σ := fun _ _ _ => rfl
theorem g_tr {σ σ2 σ3 : e3_H} (h : g_fr σ σ2) (h2 : g_fr σ2 σ3) : g_fr σ σ3 := fun a k hk => (h2 a k hk).trans (h a k hk)
theorem g_up {σ σ2 : e3_H} {a j v : Int} (h : g_fr σ σ2) (ha : 75 ≤ a ∧ a ≤ 85) : g_fr σ (e3_up σ2 a j v) := fun b k hk => by rw [e3_up_ne (by omega)]; exact h b k hk
section AG
variable {σ : e3_H} {n i : Nat} {t : Int → Int}
theorem g_term {ti : Int} {j : Nat} {σ2 : e3_H} (h : a_term t n ti i σ = .inr (j, σ2)) : g_fr σ σ2 := by
  unfold a_term at h
  split at h
  · split at h
    · cases h
    · cases h; exact g_up (g_up (g_rf _) (by omega)) (by omega)
  · split at h
    · cases h
    · cases h; exact g_up (g_up (g_rf _) (by omega)) (by omega)
theorem g_sum {ti si : Int} {j : Nat} {σ2 : e3_H} (h : a_sum t n ti si i σ = .inr (j, σ2)) : g_fr σ σ2 := by
  unfold a_sum at h
  split at h
  · cases h
  · rename_i j2 σ3 h3
    have := g_term h3
    split at h
    · exact g_tr (g_up (g_up (g_up this (by omega)) (by omega)) (by omega)) (g_term h)
    · cases h; exact g_up (g_up this (by omega)) (by omega)
theorem g_guard {j : Nat} {σ2 : e3_H} (h : a_guard t n i σ = .inr (j, σ2)) : g_fr σ σ2 := by
  unfold a_guard at h
  split at h
  · split at h
    · cases h
    · rename_i j2 σ3 h3
      have h4 := g_tr (g_up (g_rf σ) (by omega)) (g_sum h3)
      split at h
      · exact g_tr (g_up h4 (by omega)) (g_sum h)
      · cases h
  · cases h; exact g_up (g_rf _) (by omega)
end AG
/-- NAMES handed over -/
def a_arg1 (σ : e3_H) (k sp : Int) : e3_H := e3_up (if σ 83 (σ 40 27) < 3 then e3_up (e3_up σ 84 (3 * σ 40 27 + σ 83 (σ 40 27)) k) 85 (3 * σ 40 27 + σ 83 (σ 40 27)) sp else σ) 83 (σ 40 27) (σ 83 (σ 40 27) + 1)
def a_args (t : Int → Int) (n : Nat) : Nat → Nat → e3_H → a_S
  | 0, _, _ => .inl 0
  | f + 1, i, σ => if x_ty t n i = 258 then (match a_bnd σ (x_wo t n i) false with
      | none => .inl (x_sp t n i)
      | some k => if x_ty t n (i + 1) = 44 then a_args t n f (i + 2) (a_arg1 σ k (x_sp t n i)) else if x_ty t n (i + 1) = 41 then .inr (i + 2, a_arg1 σ k (x_sp t n i)) else .inl (x_sp t n (i + 1)))
    else .inl (x_sp t n i)
def a_answer (t : Int → Int) (n : Nat) (i : Nat) (σ : e3_H) : a_S :=
  if x_ty t n i = 258 then
    (if x_ty t n (i + 1) = 40 then a_args t n 1700 (i + 2) (e3_up (e3_up (e3_up (e3_up σ 82 (σ 40 27) (x_sp t n i)) 83 (σ 40 27) 0) 81 (σ 40 27) (x_wo t n i)) 79 (σ 40 27) 2)
     else match a_bnd σ (x_wo t n i) true with
      | none => .inl (x_sp t n i)
      | some k => .inr (i + 1, e3_up (e3_up (e3_up (e3_up (e3_up σ 82 (σ 40 27) (x_sp t n i)) 83 (σ 40 27) 0) 81 (σ 40 27) (x_wo t n i)) 79 (σ 40 27) 1) 80 (σ 40 27) k))
  else match a_num t n i with
    | .inl q => .inl q
    | .inr (j, x) => .inr (j, e3_up (e3_up (e3_up (e3_up σ 82 (σ 40 27) (x_sp t n i)) 83 (σ 40 27) 0) 79 (σ 40 27) 0) 80 (σ 40 27) x)
theorem g_arg1 {σ : e3_H} {k sp : Int} : g_fr σ (a_arg1 σ k sp) := by
  unfold a_arg1
  split
  · exact g_up (g_up (g_up (g_rf _) (by omega)) (by omega)) (by omega)
  · exact g_up (g_rf _) (by omega)
theorem g_args {t : Int → Int} {n : Nat} : ∀ (f i j : Nat) (σ σ2 : e3_H), a_args t n f i σ = .inr (j, σ2) → g_fr σ σ2 ∧ i < j := by
  intro f
  induction f with
  | zero => intro i j σ σ2 h; cases h
  | succ f ih =>
    intro i j σ σ2 h
    unfold a_args at h
    split at h
    · split at h
      · cases h
      · split at h
        · have := ih _ _ _ _ h
          exact ⟨g_tr g_arg1 this.1, by omega⟩
        · split at h
          · cases h; exact ⟨g_arg1, by omega⟩
          · cases h
    · cases h
theorem a_num_lt {t : Int → Int} {n i j : Nat} {x : Int} (h : a_num t n i = .inr (j, x)) : i < j := by
  unfold a_num at h
  split at h
  · split at h
    · cases h; omega
    · cases h
  · split at h
    · cases h; omega
    · cases h
theorem g_answer {t : Int → Int} {n i j : Nat} {σ σ2 : e3_H} (h : a_answer t n i σ = .inr (j, σ2)) : g_fr σ σ2 ∧ i < j := by
  unfold a_answer at h
  split at h
  · split at h
    · have := g_args _ _ _ _ _ h
      exact ⟨g_tr (g_up (g_up (g_up (g_up (g_rf _) (by omega)) (by omega)) (by omega)) (by omega)) this.1, by omega⟩
    · split at h
      · cases h
      · cases h; exact ⟨g_up (g_up (g_up (g_up (g_up (g_rf _) (by omega)) (by omega)) (by omega)) (by omega)) (by omega), by omega⟩
  · split at h
    · cases h
    · rename_i hx
      have := a_num_lt hx
      cases h; exact ⟨g_up (g_up (g_up (g_up (g_rf _) (by omega)) (by omega)) (by omega)) (by omega), this⟩
section RA
variable {H0 K σ : e3_H} {G : e3_G} {n i m : Nat} {t : Int → Int}
theorem cM_args {Q : e3_H → e3_G → Prop} : ∀ (f i : Nat) (σ K : e3_H), 1700 ≤ f + i → r_F t n i m σ K → f_fr H0 K → 0 ≤ σ 83 (σ 40 27) → σ 83 (σ 40 27) ≤ (i : Int) → (∀ j σ2, a_args t n f i σ = .inr (j, σ2) → ∀ K', r_F t n j m σ2 K' → f_fr H0 K' → Q K' G) → (∀ q, a_args t n f i σ = .inl q → ∀ K', r_bd q H0 K' → Q K' G) → wM_readAnswer_202 Q (f + 1) 1 K G := by
  intro f
  induction f with
  | zero => intro i σ K hf h; have := r_i h.1.2.1; omega
  | succ f ih =>
    intro i σ K hf h hfr hc0 hci hok hfl
    have hi := r_i h.1.2.1
    have hso := r_so h.1.1
    have h27 := h.1.2.2.2.2.2.2.1
    have e5 : K 40 5 = x_sp t n i := h.1.1.2.2.1
    show wM_readAnswer_202 Q (f + 1 + 1) 1 K G
    unfold wM_readAnswer_202
    refine brF (by decide) (brT h.1.2.2.2.1 ⟨fun hz => ?_, fun hz => cM_stop h.1.2.2.2.1 (by decide) (fun K' hf2 => ?_)⟩)
    · have hty := hso.2.2.1.mp hz
      -- what follows the NAME, whether it is bound or not
      have tail : ∀ (K1 : e3_H) (x : Int) (C : e3_H → e3_G → Prop), K1 40 27 = σ 40 27 → K1 83 (σ 40 27) = σ 83 (σ 40 27) → K1 40 5 = x_sp t n i → (C (if σ 83 (σ 40 27) < 3 then e3_up (e3_up K1 84 (3 * σ 40 27 + σ 83 (σ 40 27)) x) 85 (3 * σ 40 27 + σ 83 (σ 40 27)) (x_sp t n i) else K1) G) →
          (((0 : Int) ≤ (K1 40 27) ∧ ((K1 40 27) : Int) < 192) ∧ ((((K1 83 (K1 40 27)) : Int) < 3 → ((0 : Int) ≤ (K1 40 27) ∧ ((K1 40 27) : Int) < 192) ∧ ((0 : Int) ≤ (e3_w32 ((e3_w32 (3 * (K1 40 27))) + (K1 83 (K1 40 27)))) ∧ ((e3_w32 ((e3_w32 (3 * (K1 40 27))) + (K1 83 (K1 40 27)))) : Int) < 576) ∧ ∀ H5 : e3_H, H5 = e3_up K1 84 (e3_w32 ((e3_w32 (3 * (K1 40 27))) + (K1 83 (K1 40 27)))) x → ((0 : Int) ≤ (H5 40 27) ∧ ((H5 40 27) : Int) < 192) ∧ ((0 : Int) ≤ (e3_w32 ((e3_w32 (3 * (H5 40 27))) + (H5 83 (H5 40 27)))) ∧ ((e3_w32 ((e3_w32 (3 * (H5 40 27))) + (H5 83 (H5 40 27)))) : Int) < 576) ∧ ∀ H8 : e3_H, H8 = e3_up H5 85 (e3_w32 ((e3_w32 (3 * (H5 40 27))) + (H5 83 (H5 40 27)))) (H5 40 5) → (C H8 G)) ∧ (¬ (((K1 83 (K1 40 27)) : Int) < 3) → (C K1 G)))) := by
        intro K1 x C a1 a2 a3 hC
        rw [a1, a2]
        refine ⟨by omega, fun hc => ?_, fun hc => by rw [if_neg hc] at hC; exact hC⟩
        rw [if_pos hc] at hC
        rw [e3_w32_id (x := 3 * σ 40 27) (by omega) (by omega), e3_w32_id (x := 3 * σ 40 27 + σ 83 (σ 40 27)) (by omega) (by omega)]
        refine ⟨by omega, by omega, ?_⟩
        intro H5 e5
        have u1 : H5 40 27 = σ 40 27 := by rw [e5]; simp (disch := omega) only [e3_up_self, e3_up_ne]; exact a1
        have u2 : H5 83 (σ 40 27) = σ 83 (σ 40 27) := by rw [e5]; simp (disch := omega) only [e3_up_self, e3_up_ne]; exact a2
        have u3 : H5 40 5 = x_sp t n i := by rw [e5]; simp (disch := omega) only [e3_up_self, e3_up_ne]; exact a3
        rw [u1, u2, u3, e3_w32_id (x := 3 * σ 40 27) (by omega) (by omega), e3_w32_id (x := 3 * σ 40 27 + σ 83 (σ 40 27)) (by omega) (by omega)]
        refine ⟨by omega, by omega, ?_⟩
        intro H8 e8
        rw [e8, e5]
        exact hC
      have e27 : K 40 27 = σ 40 27 := r_N_f h.1.2.2.1 27 (by omega)
      have e83 : K 83 (σ 40 27) = σ 83 (σ 40 27) := by rw [r_N_at h.1.2.2.1 83 (by omega)]
      refine cM_boundName (wh := false) h.1 rfl hty (fun k hb k0 k8 => ?_) (fun hb x K1 hf1 => ?_)
      · refine tail K k (fun H8 G2 => wM_readAnswer_295 Q (fun l3 H G => wM_readAnswer_202 Q (f + 1) l3 H G) H8 G2) e27 e83 e5 ?_
        have hS : ∃ τ, τ = (if σ 83 (σ 40 27) < 3 then e3_up (e3_up σ 84 (3 * σ 40 27 + σ 83 (σ 40 27)) k) 85 (3 * σ 40 27 + σ 83 (σ 40 27)) (x_sp t n i) else σ) ∧ r_F t n i m τ (if σ 83 (σ 40 27) < 3 then e3_up (e3_up K 84 (3 * σ 40 27 + σ 83 (σ 40 27)) k) 85 (3 * σ 40 27 + σ 83 (σ 40 27)) (x_sp t n i) else K) ∧ f_fr H0 (if σ 83 (σ 40 27) < 3 then e3_up (e3_up K 84 (3 * σ 40 27 + σ 83 (σ 40 27)) k) 85 (3 * σ 40 27 + σ 83 (σ 40 27)) (x_sp t n i) else K) ∧ τ 40 27 = σ 40 27 ∧ τ 83 (σ 40 27) = σ 83 (σ 40 27) := by
          by_cases hc : σ 83 (σ 40 27) < 3
          · rw [if_pos hc, if_pos hc]
            exact ⟨_, rfl, r_F_up (r_F_up h (by omega)) (by omega), f_up (f_up hfr (by omega)) (by omega), by simp (disch := omega) only [e3_up_self, e3_up_ne], by simp (disch := omega) only [e3_up_self, e3_up_ne]⟩
          · rw [if_neg hc, if_neg hc]
            exact ⟨_, rfl, h, hfr, rfl, rfl⟩
        obtain ⟨τ, eτ, s1, s2, s3, s4⟩ := hS
        generalize (if σ 83 (σ 40 27) < 3 then e3_up (e3_up K 84 (3 * σ 40 27 + σ 83 (σ 40 27)) k) 85 (3 * σ 40 27 + σ 83 (σ 40 27)) (x_sp t n i) else K) = K2 at s1 s2 ⊢
        have v27 : K2 40 27 = σ 40 27 := by rw [r_N_f s1.1.2.2.1 27 (by omega)]; exact s3
        have v83 : K2 83 (σ 40 27) = σ 83 (σ 40 27) := by rw [r_N_at s1.1.2.2.1 83 (by omega)]; exact s4
        have eA : e3_up τ 83 (σ 40 27) (σ 83 (σ 40 27) + 1) = a_arg1 σ k (x_sp t n i) := by rw [eτ]; rfl
        unfold wM_readAnswer_295 wM_readAnswer_319
        rw [v27, v83, e3_w32_id (x := σ 83 (σ 40 27) + 1) (by omega) (by omega)]
        refine ⟨by omega, by omega, ?_⟩
        intro H1 e1
        have h1 : r_F t n i m (a_arg1 σ k (x_sp t n i)) H1 := by rw [e1, ← eA]; exact r_F_up s1 (by omega)
        have f1 : f_fr H0 H1 := by rw [e1]; exact f_up s2 (by omega)
        have a27 : a_arg1 σ k (x_sp t n i) 40 27 = σ 40 27 := g_arg1 40 27 (by omega)
        have a83 : a_arg1 σ k (x_sp t n i) 83 (σ 40 27) = σ 83 (σ 40 27) + 1 := by rw [← eA]; simp (disch := omega) only [e3_up_self, e3_up_ne]
        refine brT h1.1.2.2.2.1 (r_F_nx h1 f1 ⟨by omega, by omega⟩ (fun K3 a3 b3 c3 => ?_))
        have hae : a_args t n (f + 1) i σ = (if x_ty t n (i + 1) = 44 then a_args t n f (i + 2) (a_arg1 σ k (x_sp t n i)) else if x_ty t n (i + 1) = 41 then .inr (i + 2, a_arg1 σ k (x_sp t n i)) else .inl (x_sp t n (i + 1))) := by
          conv => lhs; unfold a_args
          rw [if_pos hty, hb]
        rw [hae] at hok hfl
        refine cM_takes a3.1.1 a3.1.2.1 a3.1.2.2.2.1 (by decide) (fun he K4 a4 b4 => ?_) (fun he => ?_)
        · rw [if_pos he] at hok hfl
          have r4 : r_F t n (i + 2) m (a_arg1 σ k (x_sp t n i)) K4 := ⟨⟨a4, r_in_s a3.1.2.1 ⟨by omega, by omega⟩, r_N_tr a3.1.2.2.1 b4, by rw [x_N_f b4 7 (by omega)]; exact a3.1.2.2.2.1, p_inv_le a3.1.2.2.2.2 (by omega)⟩, by have := a3.2; omega⟩
          exact ih (i + 2) _ K4 (by omega) r4 (f_N c3 b4) (by rw [a27, a83]; omega) (by rw [a27, a83]; omega) hok hfl
        · rw [if_neg he] at hok hfl
          unfold wM_readAnswer_202 wM_readAnswer_329
          refine brT rfl (cM_must a3.1.1 a3.1.2.1 a3.1.2.2.2.1 (by decide) (fun he2 K4 a4 b4 => ?_) (fun he2 K4 hf4 => ?_))
          · rw [if_pos he2] at hok
            have r4 : r_F t n (i + 2) m (a_arg1 σ k (x_sp t n i)) K4 := ⟨⟨a4, r_in_s a3.1.2.1 ⟨by omega, by omega⟩, r_N_tr a3.1.2.2.1 b4, by rw [x_N_f b4 7 (by omega)]; exact a3.1.2.2.2.1, p_inv_le a3.1.2.2.2.2 (by omega)⟩, by have := a3.2; omega⟩
            exact hok _ _ rfl K4 r4 (f_N c3 b4)
          · rw [if_neg he2] at hfl
            exact hfl _ rfl K4 (bd_f c3 hf4)
      · have hbd := bd_f hfr hf1
        have hf3 : ∀ a k : Int, a ≠ 40 → K1 a k = K a k := fun a k ha => hf1.2.2.2.1 a k (by simp only [List.mem_cons, List.not_mem_nil, or_false]; exact ha)
        refine tail K1 x (fun H8 G2 => wM_readAnswer_295 Q (fun l3 H G => wM_readAnswer_202 Q (f + 1) l3 H G) H8 G2) (by rw [hf1.2.2.1 27 (by omega) (by omega)]; exact e27) (by rw [hf3 83 _ (by omega)]; exact e83) (by rw [hf1.2.2.1 5 (by omega) (by omega)]; exact e5) ?_
        have hb2 : r_bd (x_sp t n i) H0 (if σ 83 (σ 40 27) < 3 then e3_up (e3_up K1 84 (3 * σ 40 27 + σ 83 (σ 40 27)) x) 85 (3 * σ 40 27 + σ 83 (σ 40 27)) (x_sp t n i) else K1) := by
          split
          · exact bd_up (bd_up hbd (by omega)) (by omega)
          · exact hbd
        have v27 : (if σ 83 (σ 40 27) < 3 then e3_up (e3_up K1 84 (3 * σ 40 27 + σ 83 (σ 40 27)) x) 85 (3 * σ 40 27 + σ 83 (σ 40 27)) (x_sp t n i) else K1) 40 27 = σ 40 27 := by
          have : K1 40 27 = σ 40 27 := by rw [hf1.2.2.1 27 (by omega) (by omega)]; exact e27
          split
          · simp (disch := omega) only [e3_up_self, e3_up_ne]; exact this
          · exact this
        generalize (if σ 83 (σ 40 27) < 3 then e3_up (e3_up K1 84 (3 * σ 40 27 + σ 83 (σ 40 27)) x) 85 (3 * σ 40 27 + σ 83 (σ 40 27)) (x_sp t n i) else K1) = K2 at hb2 v27 ⊢
        unfold wM_readAnswer_295 wM_readAnswer_319
        rw [v27]
        refine ⟨by omega, by omega, ?_⟩
        intro H1 e1
        have b1 : r_bd (x_sp t n i) H0 H1 := by rw [e1]; exact bd_up hb2 (by omega)
        refine brF b1.1 (cM_taken b1.1 ?_)
        unfold wM_readAnswer_202 wM_readAnswer_329
        refine brT rfl (cM_musted b1.1 (hfl _ ?_ H1 b1))
        unfold a_args
        rw [if_pos hty, hb]
    · rw [e5] at hf2
      have hty : x_ty t n i ≠ 258 := fun y => hz (hso.2.2.1.mpr y)
      refine hfl _ ?_ K' (bd_f hfr hf2)
      unfold a_args
      rw [if_neg hty]
end RA
