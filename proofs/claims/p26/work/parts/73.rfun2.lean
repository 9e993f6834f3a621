def F_one (σ : e3_H) (m : Nat) (f : Int) : Prop := c_ok σ m f ∧ 1 ≤ σ 68 f ∧ (0 ≤ σ 70 f ∧ σ 70 f ≤ 16) ∧ ∀ k : Int, 0 ≤ k → k < σ 70 f → j_inv σ m (16 * f + k)
def F_lt (σ : e3_H) (m : Nat) (nf : Int) : Prop := ∀ f : Int, 0 ≤ f → f < nf → F_one σ m f
theorem j_inv_eq {σ σ2 : e3_H} {m : Nat} {r : Int} (h : j_inv σ m r) (e74 : σ2 74 r = σ 74 r) (e56 : σ2 56 r = σ 56 r) (e58 : ∀ k : Int, 0 ≤ k → k < 8 → σ2 58 (8 * r + k) = σ 58 (8 * r + k)) (e79 : σ2 79 r = σ 79 r) (e83 : σ2 83 r = σ 83 r) (e84 : ∀ k : Int, 0 ≤ k → k < 3 → σ2 84 (3 * r + k) = σ 84 (3 * r + k)) : j_inv σ2 m r := by
  obtain ⟨h1, h2, h3, h4⟩ := h
  unfold j_inv
  rw [e74, e56, e79, e83]
  refine ⟨h1, h2, fun k hk => ?_, fun h79 k k1 k2 => ?_⟩
  · rw [e58 k (by omega) (by omega)]; exact h3 k hk
  · rw [e84 k (by omega) (by omega)]; exact h4 h79 k k1 k2
theorem F_one_fr {σ σ2 : e3_H} {m : Nat} {f : Int} (h : F_one σ m f) (e : ∀ a k : Int, ((a = 68 ∨ a = 70) ∧ k = f) ∨ (a = 69 ∧ 3 * f ≤ k ∧ k < 3 * f + 3) ∨ ((a = 74 ∨ a = 56 ∨ a = 79 ∨ a = 83) ∧ 16 * f ≤ k ∧ k < 16 * f + 16) ∨ (a = 58 ∧ 128 * f ≤ k ∧ k < 128 * f + 128) ∨ (a = 84 ∧ 48 * f ≤ k ∧ k < 48 * f + 48) → σ2 a k = σ a k) : F_one σ2 m f := by
  obtain ⟨h1, h2, h3, h4⟩ := h
  have e70 : σ2 70 f = σ 70 f := e 70 f (by omega)
  refine ⟨c_ok_eq h1 (e 68 f (by omega)) (fun c hc => e _ _ (by omega)), by rw [e 68 f (by omega)]; exact h2, by rw [e70]; exact h3, fun k k0 hk => ?_⟩
  rw [e70] at hk
  exact j_inv_eq (h4 k k0 hk) (e _ _ (by omega)) (e _ _ (by omega)) (fun x x0 x1 => e _ _ (by omega)) (e _ _ (by omega)) (e _ _ (by omega)) (fun x x0 x1 => e _ _ (by omega))
section RG
variable {H0 : e3_H} {G : e3_G} {n m : Nat} {t : Int → Int}
theorem F_rule {f : Int} {i j : Nat} {σ σ2 : e3_H} (h : a_rule t n f i σ = .inr (j, σ2)) (hp : p_w σ m) (hs : σ 40 16 ≤ (i : Int)) (hf : 0 ≤ f ∧ f < 12) (hF : F_one σ m f) (hL : F_lt σ m f) : F_one σ2 m f ∧ F_lt σ2 m f ∧ p_w σ2 m ∧ σ2 40 16 ≤ (j : Int) ∧ i < j ∧ σ2 70 f = σ 70 f + 1 := by
  obtain ⟨h1, h2, h3, h4⟩ := hF
  obtain ⟨b1, b2, b3, b4, b5, b6, b7, b8⟩ := a_rule_ok h hp hs hf h1 h2 h3
  have e68 : σ2 68 f = σ 68 f := b7 68 f (by unfold h_own; omega) (by omega)
  refine ⟨⟨c_ok_eq h1 e68 (fun c hc => b7 _ _ (by unfold h_own; omega) (by omega)), by rw [e68]; exact h2, by rw [b5]; omega, fun k k0 hk => ?_⟩, fun g g0 g1 => ?_, b3, b4, b1, b5⟩
  · rw [b5] at hk
    by_cases hz : k = σ 70 f
    · rw [hz]; exact b8
    · exact j_inv_eq (h4 k k0 (by omega)) (b7 _ _ (by unfold h_own; omega) (by omega)) (b7 _ _ (by unfold h_own; omega) (by omega)) (fun x x0 x1 => b7 _ _ (by unfold h_own; omega) (by omega)) (b7 _ _ (by unfold h_own; omega) (by omega)) (b7 _ _ (by unfold h_own; omega) (by omega)) (fun x x0 x1 => b7 _ _ (by unfold h_own; omega) (by omega))
  · exact F_one_fr (hL g g0 g1) (fun a k hk => b7 a k (by unfold h_own; omega) (by omega))
theorem a_rules_ok {f : Int} (hf : 0 ≤ f ∧ f < 12) : ∀ (g i : Nat) (σ : e3_H) (j : Nat) (σ2 : e3_H), a_rules t n f g i σ = .inr (j, σ2) → p_w σ m → σ 40 16 ≤ (i : Int) → F_one σ m f → F_lt σ m f → F_one σ2 m f ∧ F_lt σ2 m f ∧ p_w σ2 m ∧ σ2 40 16 ≤ (j : Int) ∧ i < j ∧ σ2 40 41 = σ 40 41 ∧ σ2 67 = σ 67 := by
  intro g
  induction g with
  | zero => intro i σ j σ2 h; cases h
  | succ g ih =>
    intro i σ j σ2 h hp hs hF hL
    unfold a_rules at h
    split at h
    · cases h; exact ⟨hF, hL, hp, by omega, by omega, rfl, rfl⟩
    · split at h
      · cases h
      · rename_i j1 σ1 h1
        obtain ⟨c1, c2, c3, c4, c5, c6⟩ := F_rule h1 hp hs hf hF hL
        obtain ⟨b1, b2, b3, b4, b5, b6, b7, b8⟩ := a_rule_ok h1 hp hs hf hF.1 hF.2.1 hF.2.2.1
        obtain ⟨d1, d2, d3, d4, d5, d6, d7⟩ := ih j1 σ1 j σ2 h c3 c4 c1 c2
        exact ⟨d1, d2, d3, d4, by omega, by rw [d6]; exact b7 40 41 (by unfold h_own; omega) (by omega), by rw [d7]; exact funext fun x => b7 67 x (by unfold h_own; omega) (by omega)⟩
theorem cM_rules {Q : e3_H → e3_G → Prop} {f : Int} (hf : 0 ≤ f ∧ f < 12) : ∀ (g i : Nat) (σ K : e3_H), r_T t n i m σ K → f_fr H0 K → F_one σ m f → F_lt σ m f → (g : Int) + σ 70 f = 17 →
    (∀ j σ2, a_rules t n f g i σ = .inr (j, σ2) → ∀ K', r_T t n j m σ2 K' → f_fr H0 K' → Q K' G) →
    (∀ q, a_rules t n f g i σ = .inl q → ∀ K', r_bd q H0 K' → Q K' G) → wM_readFunction_209 Q (g + 1) f K G := by
  intro g
  induction g with
  | zero => intro i σ K _ _ hF _ hg; have := hF.2.2.1; omega
  | succ g ih =>
    intro i σ K h hfr hF hL hg hok hfl
    refine brT h.1.2.2.2.1 (cM_isSign h.1.1 (by decide) (fun he => brF (by decide) ?_) (fun he => brT rfl ?_))
    · unfold wM_readFunction_233
      refine cM_must h.1.1 h.1.2.1 h.1.2.2.2.1 (by decide) (fun _ K2 c d => ?_) (fun hne => absurd he hne)
      refine hok (i + 1) σ ?_ K2 (r_T_s h ⟨by omega, by omega⟩ c d) (f_N hfr d)
      unfold a_rules
      rw [if_pos he]
    · have hu : a_rules t n f (g + 1) i σ = (match a_rule t n f i σ with
        | .inl q => .inl q
        | .inr (j, σ2) => a_rules t n f g j σ2) := by
        conv => lhs; unfold a_rules
        rw [if_neg he]
        rfl
      rw [hu] at hok hfl
      refine cM_rule h hfr hf ⟨hF.2.1, hF.1.1.2⟩ hF.1.2 hF.2.2.1 (fun j σ2 hr K' a b => ?_) (fun q hr K' hb => cM_f209 hb.1 (hfl q (by rw [hr]) K' hb) g)
      rw [hr] at hok hfl
      obtain ⟨c1, c2, c3, c4, c5, c6⟩ := F_rule hr h.1.2.2.2.2 h.2 hf hF hL
      exact ih j σ2 K' (r_F_T a) b c1 c2 (by omega) hok hfl
theorem a_cls_ok {f : Int} : ∀ (g i : Nat) (σ : e3_H) (j : Nat) (σ2 : e3_H), a_cls t n f g i σ = .inr (j, σ2) → k_inv σ m → c_ok σ m f → i < j ∧ c_ok σ2 m f ∧ 1 ≤ σ2 68 f ∧ ∀ a k : Int, ¬ (a = 68 ∧ k = f) → ¬ (a = 69 ∧ 3 * f ≤ k ∧ k < 3 * f + 3) → σ2 a k = σ a k := by
  intro g
  induction g with
  | zero => intro i σ j σ2 h; cases h
  | succ g ih =>
    intro i σ j σ2 h hk hc
    unfold a_cls at h
    split at h
    · cases h
    · rename_i s hs
      have hr := a_sort_rg hk hs
      have h68 := hc.1
      have hlt : σ 68 f < 3 := by
        have : ¬ σ 68 f = 3 := by simpa using hr.2.2.2
        omega
      obtain ⟨k2, k3⟩ := cl1_ok hc hlt ⟨hr.1, hr.2.1⟩
      have fr : ∀ a k : Int, ¬ (a = 68 ∧ k = f) → ¬ (a = 69 ∧ 3 * f ≤ k ∧ k < 3 * f + 3) → a_cl1 σ f s a k = σ a k := by
        intro a k y1 y2
        unfold a_cl1
        rw [e3_up_ne (by omega), e3_up_ne (by omega)]
      have kk : k_inv (a_cl1 σ f s) m := by unfold a_cl1; exact k_inv_up (k_inv_up hk (by omega)) (by omega)
      split at h
      · obtain ⟨d1, d2, d3, d4⟩ := ih _ _ _ _ h kk k2
        exact ⟨by omega, d2, d3, fun a k y1 y2 => (d4 a k y1 y2).trans (fr a k y1 y2)⟩
      · split at h
        · cases h; exact ⟨by omega, k2, by rw [k3]; omega, fr⟩
        · cases h
theorem F_new {σ : e3_H} {f v : Int} (hf : σ 40 41 = f) (hp : p_w σ m) (hL : F_lt σ m f) : c_ok (a_fnew σ f v) m f ∧ a_fnew σ f v 68 f = 0 ∧ a_fnew σ f v 70 f = 0 ∧ F_lt (a_fnew σ f v) m f ∧ p_w (a_fnew σ f v) m ∧ a_fnew σ f v 40 16 = σ 40 16 ∧ a_fnew σ f v 40 41 = f + 1 ∧ a_fnew σ f v 67 = (fun k => if k = f then v else σ 67 k) := by
  have e68 : a_fnew σ f v 68 f = 0 := by unfold a_fnew; simp (disch := omega) only [e3_up_self, e3_up_ne]
  refine ⟨⟨by rw [e68]; omega, fun c hc => by rw [e68] at hc; omega⟩, e68, ?_, fun g g0 g1 => F_one_fr (hL g g0 g1) (fun a k hk => ?_), ?_, ?_, ?_, ?_⟩
  · unfold a_fnew; simp (disch := omega) only [e3_up_self, e3_up_ne]
  · unfold a_fnew
    rw [e3_up_ne (by omega), e3_up_ne (by omega), e3_up_ne (by omega), e3_up_ne (by omega)]
  · unfold a_fnew
    exact p_w_up (p_w_up (p_w_up (p_w_up hp (by omega)) (by omega)) (by omega)) (by omega)
  · unfold a_fnew; simp (disch := omega) only [e3_up_self, e3_up_ne]
  · unfold a_fnew; simp (disch := omega) only [e3_up_self, e3_up_ne]
  · funext k
    unfold a_fnew
    rw [e3_up_ne (by omega), e3_up_ne (by omega)]
    by_cases hk : k = f
    · subst hk; rw [e3_up_self, if_pos rfl]
    · rw [if_neg hk, e3_up_ne (by omega), e3_up_ne (by omega)]
/-- between FUNCTIONS -/
def F_inv (σ : e3_H) (m : Nat) (nf : Nat) : Prop := σ 40 41 = nf ∧ nf ≤ 12 ∧ a_ds (σ 67) nf ∧ F_lt σ m nf ∧ p_w σ m
theorem a_fun_ok {i j nf : Nat} {σ σ2 : e3_H} (h : a_fun t n i σ = .inr (j, σ2)) (hF : F_inv σ m nf) (hs : σ 40 16 ≤ (i : Int)) : F_inv σ2 m (nf + 1) ∧ σ2 40 16 ≤ (j : Int) ∧ i < j := by
  obtain ⟨h1, h2, h3, h4, h5⟩ := hF
  unfold a_fun at h
  split at h
  · cases h
  split at h
  · cases h
  rename_i hnf
  split at h
  · cases h
  rename_i h12
  split at h
  · cases h
  rw [h1] at h h12
  obtain ⟨n1, n2, n3, n4, n5, n6, n7, n8⟩ := F_new (v := x_wo t n i) h1 h5 h4
  unfold a_fun2 at h
  split at h
  · cases h
  rename_i j1 σ1 hc
  obtain ⟨c1, c2, c3, c4⟩ := a_cls_ok _ _ _ _ _ hc n5.1 n1
  split at h
  · have e70 : σ1 70 nf = 0 := by rw [c4 70 _ (by omega) (by omega)]; exact n3
    have pw1 : p_w σ1 m := by
      have e : ∀ a : Int, a ≠ 68 → a ≠ 69 → σ1 a = a_fnew σ nf (x_wo t n i) a := fun a y1 y2 => funext fun k => c4 a k (by omega) (by omega)
      obtain ⟨q1, q2, q3⟩ := n5
      refine ⟨k_inv_congr q1 (by rw [e 40 (by omega) (by omega)]) (e 42 (by omega) (by omega)) (e 43 (by omega) (by omega)) (e 44 (by omega) (by omega)) (e 45 (by omega) (by omega)), ?_⟩
      rw [e 40 (by omega) (by omega), e 55 (by omega) (by omega)]
      exact ⟨q2, q3⟩
    have e16 : σ1 40 16 = σ 40 16 := by rw [c4 40 16 (by omega) (by omega)]; exact n6
    obtain ⟨d1, d2, d3, d4, d5, d6, d7⟩ := a_rules_ok (m := m) (f := nf) (by omega) _ _ _ _ _ h pw1 (by rw [e16]; omega) ⟨c2, c3, by rw [e70]; omega, fun k k0 hk => by rw [e70] at hk; omega⟩ (fun g g0 g1 => F_one_fr (n4 g g0 g1) (fun a k hk => c4 a k (by omega) (by omega)))
    have e67 : σ2 67 = (fun k => if k = (nf : Int) then x_wo t n i else σ 67 k) := by rw [d7, ← n8]; exact funext fun k => c4 67 k (by omega) (by omega)
    refine ⟨⟨by rw [d6, c4 40 41 (by omega) (by omega), n7]; omega, by omega, ?_, fun g g0 g1 => ?_, d3⟩, d4, by omega⟩
    · have hno := a_fd_no _ (Decidable.not_not.mp hnf)
      have ea : a_nf σ = nf := by unfold a_nf; rw [h1]; omega
      rw [ea] at hno
      intro x y hx hy he
      rw [e67] at he
      simp only at he
      by_cases cx : x = nf
      · by_cases cy : y = nf
        · omega
        · rw [if_pos (by omega), if_neg (by omega)] at he
          exact absurd he.symm (hno y (by omega))
      · by_cases cy : y = nf
        · rw [if_neg (by omega), if_pos (by omega)] at he
          exact absurd he (hno x (by omega))
        · rw [if_neg (by omega), if_neg (by omega)] at he
          exact h3 x y (by omega) (by omega) he
    · by_cases hg : g = nf
      · rw [hg]; exact d1
      · exact d2 g g0 (by omega)
  · cases h
theorem cM_readFunction {Q : e3_H → e3_G → Prop} {i nf : Nat} {σ K : e3_H} (h : r_T t n i m σ K) (hnf : x_nf t n i) (hfr : f_fr H0 K) (hF : F_inv σ m nf)
    (hok : ∀ j σ2, a_fun t n (i + 1) σ = .inr (j, σ2) → ∀ K', r_T t n j m σ2 K' → f_fr H0 K' → Q K' G) (hfl : ∀ q, a_fun t n (i + 1) σ = .inl q → ∀ K', r_bd q H0 K' → Q K' G) : wM_readFunction Q K G := by
  obtain ⟨h1, h2, h3, h4, h5⟩ := id hF
  unfold wM_readFunction
  refine cM_nxt h.1.1 h.1.2.1 hnf (fun K1 a b => ?_)
  have t1 := r_T_s h hnf a b
  have f1 := f_N hfr b
  have ea : a_nf σ = nf := by unfold a_nf; rw [h1]; omega
  have hso := r_so t1.1.1
  have e41 : K1 40 41 = nf := by rw [r_N_f t1.1.2.2.1 41 (by omega)]; exact h1
  have e67 : K1 67 = σ 67 := r_N_at t1.1.2.2.1 67 (by omega)
  have bad : ∀ q K', a_fun t n (i + 1) σ = .inl q → r_flt q K1 K' → wM_readFunction_64 Q K' G := by
    intro q K' hq hf
    unfold wM_readFunction_64
    exact brF hf.1 (hfl q hq K' (bd_f f1 hf))
  have e5 : K1 40 5 = x_sp t n (i + 1) := t1.1.1.2.2.1
  refine ⟨fun hz => ?_, fun hz => ?_⟩
  · have hty := hso.2.2.1.mp hz
    have e4 := (r_va t1.1.1 (by omega)).1 (by omega) (by omega)
    have hu : a_fun t n (i + 1) σ = (if a_fd (σ 67) (x_wo t n (i + 1)) nf ≠ -4 then .inl (x_sp t n (i + 1) : Int)
        else if σ 40 41 = 12 then .inl (x_sp t n (i + 1) : Int)
        else if x_ty t n (i + 1 + 1) ≠ 40 then .inl (x_sp t n (i + 1 + 1) : Int)
        else a_fun2 t n (σ 40 41) (a_cls t n (σ 40 41) 4 (i + 1 + 2) (a_fnew σ (σ 40 41) (x_wo t n (i + 1))))) := by
      unfold a_fun
      rw [if_neg (fun z => z hty), ea]
    rw [e4]
    refine cM_functionOf e41 h2 ?_
    rw [e67, e41, e5]
    refine ⟨fun hn => ⟨fun h12 => ?_, fun h12 => ?_⟩, fun hn => ?_⟩
    · refine cM_fl t1.1.2.2.2.1 (by decide) (fun K' hf => bad _ K' ?_ hf)
      rw [hu, if_neg (fun z => z hn), if_pos (by rw [h1]; exact h12)]
    · rw [if_neg (fun z => z hn), if_neg (by rw [h1]; exact h12), h1] at hu
      unfold wM_readFunction_64
      refine brT t1.1.2.2.2.1 ?_
      rw [e41, e3_w32_id (x := (nf : Int) + 1) (by omega) (by omega)]
      intro H1 e1
      have g4 : H1 40 4 = x_wo t n (i + 1) := by rw [e1, e3_up_ne (by omega)]; exact e4
      rw [g4]
      refine ⟨by omega, ?_⟩
      intro H2 e2
      refine ⟨by omega, ?_⟩
      intro H4 e4'
      refine ⟨by omega, ?_⟩
      intro H6 e6
      have t6 : r_T t n (i + 1) m (a_fnew σ nf (x_wo t n (i + 1))) H6 := by
        rw [e6, e4', e2, e1]
        exact r_T_up (r_T_up (r_T_up (r_T_up t1 (by omega)) (by omega)) (by omega)) (by omega)
      have f6 : f_fr H0 H6 := by
        rw [e6, e4', e2, e1]
        exact f_up (f_up (f_up (f_up f1 (by omega)) (by omega)) (by omega)) (by omega)
      obtain ⟨n1, n2, n3, n4, n5, n6, n7, n8⟩ := F_new (v := x_wo t n (i + 1)) h1 h5 h4
      refine cM_nxt t6.1.1 t6.1.2.1 ⟨by omega, by omega⟩ (fun K7 a7 b7 => ?_)
      have t7 := r_T_s t6 ⟨by omega, by omega⟩ a7 b7
      have f7 := f_N f6 b7
      refine cM_must t7.1.1 t7.1.2.1 t7.1.2.2.2.1 (by decide) (fun he K8 a8 b8 => ?_) (fun he K8 hf8 => ?_)
      · rw [if_neg (fun z => z he)] at hu
        rw [hu] at hok hfl
        have t8 := r_T_s t7 ⟨by omega, by omega⟩ a8 b8
        have f8 := f_N f7 b8
        refine ⟨5, cM_cls (m := m) (by omega) 4 (i + 1 + 2) _ K8 t8 f8 n1 (by rw [n2]; decide) (fun j σ2 hc K9 a9 b9 c9 d9 => ?_) (fun q hc K9 hb => hfl q (by rw [hc]; rfl) K9 hb)⟩
        rw [hc] at hok hfl
        unfold a_fun2 at hok hfl
        simp only at hok hfl
        obtain ⟨c1, c2, c3, c4⟩ := a_cls_ok _ _ _ _ _ hc n5.1 n1
        refine cM_must a9.1.1 a9.1.2.1 a9.1.2.2.2.1 (by decide) (fun he2 K10 a10 b10 => ?_) (fun he2 K10 hf10 => ?_)
        · rw [if_pos he2] at hok hfl
          have e70 : σ2 70 nf = 0 := by rw [c4 70 _ (by omega) (by omega)]; exact n3
          exact ⟨18, cM_rules (m := m) (by omega) 17 (j + 1) σ2 K10 (r_T_s a9 ⟨by omega, by omega⟩ a10 b10) (f_N b9 b10) ⟨c2, c3, by rw [e70]; omega, fun k k0 hk => by rw [e70] at hk; omega⟩ (fun g g0 g1 => F_one_fr (n4 g g0 g1) (fun a k hk => c4 a k (by omega) (by omega))) (by rw [e70]; omega) hok hfl⟩
        · rw [if_neg he2] at hfl
          exact ⟨1, cM_f209 hf10.1 (hfl _ rfl K10 (bd_f b9 hf10)) 0⟩
      · rw [if_pos he] at hu
        rw [hu] at hfl
        exact ⟨1, brF (by decide) (brF hf8.1 (cM_f197 hf8.1 (hfl _ rfl K8 (bd_f f7 hf8))))⟩
    · refine cM_fl t1.1.2.2.2.1 (by decide) (fun K' hf => bad _ K' ?_ hf)
      rw [hu, if_pos hn]
  · refine cM_stop t1.1.2.2.2.1 (by decide) (fun K' hf => ?_)
    rw [e5] at hf
    refine bad _ K' ?_ hf
    unfold a_fun
    rw [if_pos (fun z => hz (hso.2.2.1.mpr z))]
end RG
