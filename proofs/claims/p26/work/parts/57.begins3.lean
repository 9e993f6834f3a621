section RB3
variable {H0 K σ : e3_H} {G : e3_G} {n i m : Nat} {t : Int → Int}
theorem a_beg_no {s : Int} {mu : Bool} (h : a_okp t n s i σ = false) : a_beg t n s mu i σ = .inl (x_sp t n i) := by
  unfold a_beg
  rw [if_pos (Or.inl h)]
theorem cM_begins {Q : Int → e3_H → e3_G → Prop} {s mu : Int} (hmu : mu = 0 ∨ mu = 1) (h : r_P t n i m σ K) (hst16 : σ 40 16 ≤ (i : Int)) (hfr : rp_fr H0 K) (hd : 0 ≤ K 40 32 ∧ K 40 32 < 7) (hs : 0 ≤ s ∧ s < 3 + m)
    (hok : ∀ j σ2 op, a_beg t n s (decide (mu = 1)) i σ = .inr (j, σ2, op) → ∀ K', r_P t n j m σ2 K' → rp_fr H0 K' → (op = false → r_sc K K') → (op = true → r_op (σ 40 16) (x_sp t n i) (σ 40 31) K K') → Q (σ 40 16) K' G)
    (hfl : ∀ q, a_beg t n s (decide (mu = 1)) i σ = .inl q → ∀ x K', r_bad q H0 K' → Q x K' G) : wM_begins Q s mu K G := by
  have hi := r_i h.2.1
  obtain ⟨hkk, h16, h27, h56, h31, h55⟩ := id h.2.2.2.2
  have hnk : a_nk σ = m := k_nk hkk
  have hm24 := hkk.2.1
  have hN := h.2.2.1
  have hso := r_so h.1
  have e16 : K 40 16 = σ 40 16 := r_N_f hN 16 (by omega)
  have e10 : K 40 10 = (m : Int) := by rw [r_N_f hN 10 (by omega)]; exact hkk.1
  have e42 : K 42 = σ 42 := r_N_at hN 42 (by omega)
  have e43 : K 43 = σ 43 := r_N_at hN 43 (by omega)
  have e5 : K 40 5 = x_sp t n i := h.1.2.2.1
  -- behind a fault at the first TOKEN
  have bad : a_okp t n s i σ = false → ∀ (nu tr k c pl : Int), 0 < c → pl = x_sp t n i → wM_fails (fun H1 G2 => wM_begins_283 Q s mu pl nu tr k H1 G2) c pl K G := by
    intro ho nu tr k c pl hc hpl
    subst hpl
    refine cM_fl h.2.2.2.1 hc (fun K' hf => ?_)
    have htk : r_tk t n i K' := by
      have hf3 : ∀ a k : Int, a ≠ 40 → K' a k = K a k := fun a k ha => hf.2.2.2.1 a k (by simp only [List.mem_cons, List.not_mem_nil, or_false]; exact ha)
      obtain ⟨w1, w2, w3, w4, w5⟩ := h.1
      exact ⟨by rw [hf.2.2.1 1 (by omega) (by omega)]; exact w1, by rw [← w2]; funext k; exact hf3 41 k (by omega), by rw [hf.2.2.1 5 (by omega) (by omega)]; exact w3, by rw [hf.2.2.1 3 (by omega) (by omega)]; exact w4, fun y => by rw [hf.2.2.1 4 (by omega) (by omega), hf.2.2.1 6 (by omega) (by omega)]; exact w5 y⟩
    exact bg_283f htk (by rw [hf.2.2.1 16 (by omega) (by omega), e16]; omega) ⟨hf.1, hf.2.1, rp_f hfr hf⟩ (hfl _ (a_beg_no ho)) _
  have e235 : ∀ nu tr k, a_okp t n s i σ = false → wM_begins_235 Q s mu (x_sp t n i) nu tr 1 k K G := by
    intro nu tr k ho
    unfold wM_begins_235 wM_begins_277
    exact brF (by decide) (bad ho _ _ _ _ _ (by decide) rfl)
  have e186 : ∀ nu tr, x_ty t n i ≠ 259 → a_okp t n s i σ = false → wM_begins_186 Q s mu (x_sp t n i) nu tr 1 K G := by
    intro nu tr h9 ho
    have h2 : ¬ K 40 3 = 2 := fun z => h9 (hso.2.2.2.1.mp z)
    unfold wM_begins_186 wM_begins_209
    exact brF h2 (brF h2 (e235 _ _ _ ho))
  have g186 : ∀ nu tr, nu = (if x_ty t n i = 260 ∨ x_ty t n i = 45 then 1 else 0) → tr = (if x_ty t n i = 278 ∨ x_ty t n i = 279 then 1 else 0) → (x_ty t n i = 95 ∨ x_ty t n i = 40 ∨ x_ty t n i = 258 ∨ x_ty t n i = 260 ∨ x_ty t n i = 45 ∨ x_ty t n i = 278 ∨ x_ty t n i = 279 ∨ x_ty t n i = 261 ∨ x_ty t n i = 280 ∨ x_ty t n i = 259) → (x_ty t n i ≠ 258 → x_ty t n i ≠ 259 → a_okp t n s i σ = true) → wM_begins_186 Q s mu (x_sp t n i) nu tr 0 K G := by
    intro nu tr hnu htr hst hokp
    have fin : ∀ k, (x_ty t n i = 259 → k = a_fd (σ 42) (x_wo t n i) (a_nk σ)) → (x_ty t n i = 259 → 0 ≤ a_fd (σ 42) (x_wo t n i) (a_nk σ)) → (x_ty t n i = 259 → a_okp t n s i σ = true) → wM_begins_283 Q s mu (x_sp t n i) nu tr k K G := by
      intro k hke hk0 h9
      refine bg_283 h.1 hnu htr ?_
      exact bg_go hmu h hst16 hfr hd hnu hke hk0 hst (fun z => if z9 : x_ty t n i = 259 then h9 z9 else hokp z z9) hok hfl
    by_cases h9 : x_ty t n i = 259
    · have h2 : K 40 3 = 2 := hso.2.2.2.1.mpr h9
      have e4 := (r_va h.1 (by omega)).1 (by omega) (by omega)
      have hko : a_okp t n s i σ = (decide (0 ≤ a_fd (σ 42) (x_wo t n i) (a_nk σ)) && decide (3 ≤ s) && (a_of (σ 43) (s - 3) 24 (a_fd (σ 42) (x_wo t n i) (a_nk σ)) || a_of (σ 43) (a_fd (σ 42) (x_wo t n i) (a_nk σ)) 24 (s - 3))) := by
        unfold a_okp
        rw [if_neg (by omega), if_neg (by omega), if_neg (by omega), if_neg (by omega), if_neg (by omega), if_neg (by omega), if_pos h9]
      unfold wM_begins_186
      refine brT h2 ?_
      rw [e4]
      refine cM_kindOf e10 hm24 ?_
      rw [e42]
      have hrg := a_fd_rg (σ 42) (x_wo t n i) m
      rw [hnk] at fin hko
      unfold wM_begins_209
      refine brT h2 ⟨fun z => bad (by rw [hko, z]; rfl) _ _ _ _ _ (by decide) rfl, fun z => ?_⟩
      have hk0 : 0 ≤ a_fd (σ 42) (x_wo t n i) m := by omega
      have hkm : a_fd (σ 42) (x_wo t n i) m < m := by omega
      obtain ⟨k, hk⟩ : ∃ k : Nat, a_fd (σ 42) (x_wo t n i) m = (k : Int) := ⟨_, (Int.toNat_of_nonneg hk0).symm⟩
      rw [hk] at hko fin ⊢
      rw [hk] at hkm
      unfold wM_begins_235 wM_begins_277
      refine brT rfl (brT h2 ⟨fun hs3 => bad (by rw [hko, decide_eq_false (show ¬ (3 ≤ s) by omega)]; simp) _ _ _ _ _ (by decide) rfl, fun hs3 => ?_⟩)
      rw [e3_w32_id (by omega) (by omega)]
      have hu : a_up (K 43) m := by rw [e43]; exact hkk.2.2.2.1
      obtain ⟨u, hu2⟩ : ∃ u : Nat, s - 3 = (u : Int) := ⟨_, (Int.toNat_of_nonneg (by omega)).symm⟩
      rw [hu2] at hko ⊢
      refine cM_isOf hm24 hu (by omega) (by omega) (fun z1 => brF (by decide) (fin _ (fun _ => rfl) (fun _ => by omega) (fun _ => ?_))) (fun z1 => brT rfl ?_)
      · rw [e43] at z1
        rw [hko, z1, decide_eq_true (show (0 : Int) ≤ k by omega), decide_eq_true (show 3 ≤ s by omega)]; rfl
      · refine cM_isOf hm24 hu (by omega) (by omega) (fun z2 => brF (by decide) (fin _ (fun _ => rfl) (fun _ => by omega) (fun _ => ?_))) (fun z2 => brT rfl (bad ?_ _ _ _ _ _ (by decide) rfl))
        · rw [e43] at z1 z2
          rw [hko, z1, z2, decide_eq_true (show (0 : Int) ≤ k by omega), decide_eq_true (show 3 ≤ s by omega)]; rfl
        · rw [e43] at z1 z2
          rw [hko, z1, z2]; simp
    · have h2 : ¬ K 40 3 = 2 := fun z => h9 (hso.2.2.2.1.mp z)
      unfold wM_begins_186 wM_begins_209 wM_begins_235
      exact brF h2 (brF h2 (brT rfl (brF h2 (fin _ (fun y => absurd y h9) (fun y => absurd y h9) (fun y => absurd y h9)))))
  have e120 : ∀ nu tr is, nu = (if x_ty t n i = 260 ∨ x_ty t n i = 45 then 1 else 0) → tr = (if x_ty t n i = 278 ∨ x_ty t n i = 279 then 1 else 0) → (is = 1 ∧ (x_ty t n i = 95 ∨ x_ty t n i = 40 ∨ x_ty t n i = 258 ∨ x_ty t n i = 260 ∨ x_ty t n i = 45 ∨ x_ty t n i = 278 ∨ x_ty t n i = 279 ∨ x_ty t n i = 261 ∨ x_ty t n i = 280 ∨ x_ty t n i = 259) ∨ is = 0 ∧ ¬ (x_ty t n i = 95 ∨ x_ty t n i = 40 ∨ x_ty t n i = 258 ∨ x_ty t n i = 260 ∨ x_ty t n i = 45 ∨ x_ty t n i = 278 ∨ x_ty t n i = 279 ∨ x_ty t n i = 261 ∨ x_ty t n i = 280 ∨ x_ty t n i = 259)) → wM_begins_120 Q s mu (x_sp t n i) nu tr is K G := by
    intro nu tr is hnu htr his
    unfold wM_begins_120
    rcases his with ⟨his, hst⟩ | ⟨his, hst⟩
    · refine brF (by omega) ?_
      by_cases c1 : x_ty t n i = 260 ∨ x_ty t n i = 45
      · have hko : a_okp t n s i σ = decide (s = 0) := by
          unfold a_okp
          rw [if_neg (by omega), if_neg (by omega), if_pos c1]
        have hn1 : nu = 1 := by rw [hnu, if_pos c1]
        have ht1 : tr = 0 := by rw [htr, if_neg (by omega)]
        have h4 : ¬ K 40 3 = 4 := fun z => by have := hso.2.2.2.2.2.1.mp z; omega
        refine brF (by omega) ⟨fun hz => ?_, fun hz => ?_⟩
        · unfold wM_begins_144 wM_begins_154 wM_begins_167 wM_begins_185
          refine brT ht1 (brF h4 (cM_isWord h.1 (by decide) (fun _ => by omega) (fun _ => brT rfl (g186 _ _ hnu htr hst (fun _ _ => by rw [hko, hz]; rfl)))))
        · unfold wM_begins_181
          exact e186 _ _ (by omega) (by rw [hko]; exact decide_eq_false hz)
      · have hn1 : nu = 0 := by rw [hnu, if_neg c1]
        refine brT hn1 ?_
        unfold wM_begins_144
        by_cases c2 : x_ty t n i = 278 ∨ x_ty t n i = 279
        · have hko : a_okp t n s i σ = decide (s = 1) := by
            unfold a_okp
            rw [if_neg (by omega), if_neg (by omega), if_neg c1, if_pos c2]
          have ht1 : tr = 1 := by rw [htr, if_pos c2]
          have h4 : ¬ K 40 3 = 4 := fun z => by have := hso.2.2.2.2.2.1.mp z; omega
          refine brF (by omega) ⟨fun hz => ?_, fun hz => ?_⟩
          · unfold wM_begins_154 wM_begins_167 wM_begins_185
            refine (brF h4 (cM_isWord h.1 (by decide) (fun _ => by omega) (fun _ => brT rfl (g186 _ _ hnu htr hst (fun _ _ => by rw [hko, hz]; rfl)))))
          · unfold wM_begins_181
            exact e186 _ _ (by omega) (by rw [hko]; exact decide_eq_false hz)
        · have ht1 : tr = 0 := by rw [htr, if_neg c2]
          refine brT ht1 ?_
          unfold wM_begins_154
          have e167 : (x_ty t n i ≠ 280 → x_ty t n i ≠ 258 → x_ty t n i ≠ 259 → a_okp t n s i σ = true) → wM_begins_167 Q s mu (x_sp t n i) nu tr K G := by
            intro ho
            unfold wM_begins_167 wM_begins_185 wM_begins_181
            refine cM_isWord h.1 (by decide) (fun he => brF (by decide) ?_) (fun he => brT rfl (g186 _ _ hnu htr hst (fun a b => ho (by omega) a b)))
            have hko : a_okp t n s i σ = decide (3 ≤ s) := by
              unfold a_okp
              rw [if_neg (by omega), if_neg (by omega), if_neg c1, if_neg c2, if_neg (by omega), if_pos (by omega)]
            refine ⟨fun hz => e186 _ _ (by omega) (by rw [hko]; exact decide_eq_false (by omega)), fun hz => g186 _ _ hnu htr hst (fun _ _ => by rw [hko]; exact decide_eq_true (by omega))⟩
          by_cases c3 : x_ty t n i = 261
          · have h4 : K 40 3 = 4 := hso.2.2.2.2.2.1.mpr c3
            have hko : a_okp t n s i σ = decide (s = 2) := by
              unfold a_okp
              rw [if_neg (by omega), if_neg (by omega), if_neg c1, if_neg c2, if_pos c3]
            refine brT h4 ⟨fun hz => e167 (fun _ _ _ => by rw [hko, hz]; rfl), fun hz => ?_⟩
            unfold wM_begins_181
            exact e186 _ _ (by omega) (by rw [hko]; exact decide_eq_false hz)
          · have h4 : ¬ K 40 3 = 4 := fun z => c3 (hso.2.2.2.2.2.1.mp z)
            refine brF h4 (e167 (fun d1 d2 d3 => ?_))
            unfold a_okp
            rw [if_pos (by omega)]
    · refine brT his (cM_stop h.2.2.2.1 (by decide) (fun K' hf => ?_))
      rw [e5] at hf
      refine hfl _ (a_beg_no ?_) _ K' ⟨hf.1, hf.2.1, rp_f hfr hf⟩
      unfold a_okp
      rw [if_neg (by omega), if_neg (by omega), if_neg (by omega), if_neg (by omega), if_neg (by omega), if_neg (by omega), if_neg (by omega)]
  have e52 : ∀ nu tr, nu = (if x_ty t n i = 260 ∨ x_ty t n i = 45 then 1 else 0) → tr = (if x_ty t n i = 278 ∨ x_ty t n i = 279 then 1 else 0) → wM_begins_52 Q s mu (x_sp t n i) nu tr K G := by
    intro nu tr hnu htr
    have yes : (x_ty t n i = 95 ∨ x_ty t n i = 40 ∨ x_ty t n i = 258 ∨ x_ty t n i = 260 ∨ x_ty t n i = 45 ∨ x_ty t n i = 278 ∨ x_ty t n i = 279 ∨ x_ty t n i = 261 ∨ x_ty t n i = 280 ∨ x_ty t n i = 259) → wM_begins_115 Q s mu (x_sp t n i) nu tr K G := by
      intro hst
      unfold wM_begins_115
      exact e120 nu tr 1 hnu htr (Or.inl ⟨rfl, hst⟩)
    unfold wM_begins_52
    by_cases c1 : x_ty t n i = 260 ∨ x_ty t n i = 45
    · exact brF (by rw [hnu, if_pos c1]; decide) (yes (by omega))
    refine brT (by rw [hnu, if_neg c1]) ?_
    by_cases c2 : x_ty t n i = 278 ∨ x_ty t n i = 279
    · exact brF (by rw [htr, if_pos c2]; decide) (yes (by omega))
    refine brT (by rw [htr, if_neg c2]) ?_
    refine ⟨fun z => yes (by have := hso.2.2.2.2.2.1.mp z; omega), fun z1 => ⟨fun z => yes (by have := hso.2.2.1.mp z; omega), fun z2 => ⟨fun z => yes (by have := hso.2.2.2.1.mp z; omega), fun z3 => ?_⟩⟩⟩
    have d1 : x_ty t n i ≠ 261 := fun y => z1 (hso.2.2.2.2.2.1.mpr y)
    have d2 : x_ty t n i ≠ 258 := fun y => z2 (hso.2.2.1.mpr y)
    have d3 : x_ty t n i ≠ 259 := fun y => z3 (hso.2.2.2.1.mpr y)
    refine cM_isSign h.1 (by decide) (fun he => brF (by decide) (yes (by omega))) (fun d4 => brT rfl ?_)
    refine cM_isSign h.1 (by decide) (fun he => brF (by decide) (yes (by omega))) (fun d5 => brT rfl ?_)
    refine cM_isWord h.1 (by decide) (fun he => brF (by decide) (yes (by omega))) (fun d6 => brT rfl ?_)
    exact e120 nu tr 0 hnu htr (Or.inr ⟨rfl, by omega⟩)
  have e27 : ∀ nu, nu = (if x_ty t n i = 260 ∨ x_ty t n i = 45 then 1 else 0) → wM_begins_27 Q s mu (x_sp t n i) nu K G := by
    intro nu hnu
    unfold wM_begins_27 wM_begins_47
    refine cM_isWord h.1 (by decide) (fun he => brF (by decide) (e52 _ _ hnu (by rw [if_pos (by omega)]))) (fun d1 => brT rfl ?_)
    exact cM_isWord h.1 (by decide) (fun he => brF (by decide) (e52 _ _ hnu (by rw [if_pos (by omega)]))) (fun d2 => brT rfl (e52 _ _ hnu (by rw [if_neg (by omega)])))
  unfold wM_begins wM_begins_22
  rw [e5]
  refine ⟨fun z => e27 _ (by have := hso.2.2.2.2.1.mp z; rw [if_pos (by omega)]), fun z => ?_⟩
  have d0 : x_ty t n i ≠ 260 := fun y => z (hso.2.2.2.2.1.mpr y)
  exact cM_isSign h.1 (by decide) (fun he => brF (by decide) (e27 _ (by rw [if_pos (by omega)]))) (fun d1 => brT rfl (e27 _ (by rw [if_neg (by omega)])))
end RB3
