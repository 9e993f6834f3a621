def p_inv (σ : e3_H) (m i : Nat) : Prop := k_inv σ m ∧ (0 ≤ σ 40 16 ∧ σ 40 16 ≤ (i : Int) + 1) ∧ (0 ≤ σ 40 27 ∧ σ 40 27 < 192) ∧ (0 ≤ σ 56 (σ 40 27) ∧ σ 56 (σ 40 27) ≤ 8) ∧ (0 ≤ σ 40 31 ∧ σ 40 31 < 256) ∧ ∀ q : Int, 0 ≤ q → q < σ 40 16 → 1 ≤ σ 55 q ∧ σ 55 q ≤ 1000
/-- the reference reads patterns: at TOKEN i, with these tables, without a fault -/
def r_P (t : Int → Int) (n i m : Nat) (σ K : e3_H) : Prop := r_tk t n i K ∧ r_in t n i ∧ r_N σ K ∧ K 40 7 = 0 ∧ p_inv σ m i
def rp_fr (H K : e3_H) : Prop := (∀ a k : Int, a ≠ 40 → a < 46 ∨ 66 < a → K a k = H a k) ∧ (∀ k : Int, k < 2 ∨ 8 < k → k ≠ 16 → k ≠ 31 → k ≠ 32 → K 40 k = H 40 k) ∧ (0 ≤ H 40 7 → 0 ≤ K 40 7)
/-- the stack of open patterns is as it was -/
def r_sc (K K2 : e3_H) : Prop := K2 40 32 = K 40 32 ∧ ∀ a k : Int, 59 ≤ a → a ≤ 66 → K2 a k = K a k
theorem sc_rf (K : e3_H) : r_sc K K := ⟨rfl, fun _ _ _ _ => rfl⟩
theorem sc_tr {K K2 K3 : e3_H} (h : r_sc K K2) (h2 : r_sc K2 K3) : r_sc K K3 := ⟨h2.1.trans h.1, fun a k h1 h3 => (h2.2 a k h1 h3).trans (h.2 a k h1 h3)⟩
theorem sc_N {K K2 K3 : e3_H} (h : r_sc K K2) (h2 : x_N K2 K3) : r_sc K K3 := ⟨(h2.1 32 (by omega)).trans h.1, fun a k h1 h3 => by rw [x_N_at h2 a (by omega)]; exact h.2 a k h1 h3⟩
theorem sc_up {K K2 : e3_H} {a j v : Int} (h : r_sc K K2) (ha : (a < 59 ∨ 66 < a) ∧ (a ≠ 40 ∨ j ≠ 32)) : r_sc K (e3_up K2 a j v) := ⟨by rw [e3_up_ne (by omega)]; exact h.1, fun b k h1 h3 => by rw [e3_up_ne (by omega)]; exact h.2 b k h1 h3⟩
theorem rp_rf (H : e3_H) : rp_fr H H := ⟨fun _ _ _ _ => rfl, fun _ _ _ _ _ => rfl, id⟩
theorem rp_N {H K K2 : e3_H} (h : rp_fr H K) (h2 : x_N K K2) : rp_fr H K2 := ⟨fun a k h1 h3 => by rw [x_N_at h2 a h1]; exact h.1 a k h1 h3, fun k h1 h3 h4 h5 => by rw [h2.1 k (by omega)]; exact h.2.1 k h1 h3 h4 h5, fun hz => by rw [h2.1 7 (by omega)]; exact h.2.2 hz⟩
theorem rp_f {H K K2 : e3_H} {pl : Int} (h : rp_fr H K) (h2 : r_flt pl K K2) : rp_fr H K2 := ⟨fun a k h1 h3 => by rw [h2.2.2.2.1 a k (by simp only [List.mem_cons, List.not_mem_nil, or_false]; exact h1)]; exact h.1 a k h1 h3, fun k h1 h3 h4 h5 => by rw [h2.2.2.1 k (by omega) (by omega)]; exact h.2.1 k h1 h3 h4 h5, fun hz => by have := h2.2.2.2.2; omega⟩
theorem rp_up {H K : e3_H} {a j v : Int} (h : rp_fr H K) (hc : (46 ≤ a ∧ a ≤ 66) ∨ (a = 40 ∧ (j = 16 ∨ j = 31 ∨ j = 32))) : rp_fr H (e3_up K a j v) := ⟨fun b k h1 h3 => by rw [e3_up_ne (by omega)]; exact h.1 b k h1 h3, fun k h1 h3 h4 h5 => by rw [e3_up_ne (by omega)]; exact h.2.1 k h1 h3 h4 h5, fun hz => by rw [e3_up_ne (by omega)]; exact h.2.2 hz⟩
theorem k_inv_congr {σ σ2 : e3_H} {m : Nat} (h : k_inv σ m) (h10 : σ2 40 10 = σ 40 10) (h42 : σ2 42 = σ 42) (h43 : σ2 43 = σ 43) (h44 : σ2 44 = σ 44) (h45 : σ2 45 = σ 45) : k_inv σ2 m := by
  unfold k_inv at *
  rw [h10, h42, h43, h44, h45]
  exact h
theorem k_inv_up {σ : e3_H} {m : Nat} {a j v : Int} (h : k_inv σ m) (hc : (45 < a) ∨ (a = 40 ∧ j ≠ 10)) : k_inv (e3_up σ a j v) m := by
  refine k_inv_congr h ?_ ?_ ?_ ?_ ?_
  · rw [e3_up_ne (by omega)]
  all_goals (funext k; rw [e3_up_ne (by omega)])
theorem r_i {t : Int → Int} {n i : Nat} (h : r_in t n i) : i ≤ 1600 := by
  have := x_ps_ok t n i h.2.2
  have := h.1
  omega
section RP
variable {H0 K σ : e3_H} {G : e3_G} {n i m : Nat} {t : Int → Int}
theorem cM_nameOf {Q : Int → e3_H → e3_G → Prop} {v : Int} (hN : r_N σ K) (hp : p_inv σ m i) (hQ : Q (a_no σ v) K G) : wM_nameOf Q v K G := by
  obtain ⟨hk, h16, h27, h56, h31, h55⟩ := hp
  have e27 : K 40 27 = σ 40 27 := r_N_f hN 27 (by omega)
  have e56 : K 56 = σ 56 := r_N_at hN 56 (by omega)
  have e57 : K 57 = σ 57 := r_N_at hN 57 (by omega)
  have key : ∀ (f j : Nat), j + f = a_nm σ → wM_nameOf_6 Q (f + 1) v (a_fd (a_rn σ) v j) j K G := by
    intro f
    induction f with
    | zero =>
      intro j hj
      have hj : j = a_nm σ := by omega
      subst hj
      unfold wM_nameOf_6
      rw [e27, e56]
      refine ⟨⟨by omega, by omega⟩, brF (by unfold a_nm; omega) ?_⟩
      exact hQ
    | succ f ih =>
      intro j hj
      have h := ih (j + 1) (by omega)
      unfold a_nm at hj
      show wM_nameOf_6 Q (f + 1 + 1) v (a_fd (a_rn σ) v j) j K G
      unfold wM_nameOf_6
      rw [e27, e56, e57]
      refine ⟨⟨by omega, by omega⟩, brT (by omega) ?_⟩
      rw [e3_w32_id (x := 8 * σ 40 27) (by omega) (by omega), e3_w32_id (x := 8 * σ 40 27 + j) (by omega) (by omega)]
      refine ⟨⟨by omega, by omega⟩, ?_⟩
      by_cases hv : σ 57 (8 * σ 40 27 + j) = v
      · refine brT hv ?_
        unfold wM_nameOf_46
        rw [w_p1 (by omega)]
        have e : a_fd (a_rn σ) v (j + 1) = j := by show (if a_rn σ j = v then (j : Int) else _) = _; exact if_pos hv
        rw [e] at h
        exact h
      · refine brF hv ?_
        unfold wM_nameOf_46
        rw [w_p1 (by omega)]
        have e : a_fd (a_rn σ) v (j + 1) = a_fd (a_rn σ) v j := by show (if a_rn σ j = v then (j : Int) else _) = _; exact if_neg hv
        rw [e] at h
        exact h
  exact ⟨a_nm σ + 1, key (a_nm σ) 0 (by omega)⟩
theorem cM_newPattern {Q : Int → e3_H → e3_G → Prop} {kd s : Int} (h : r_P t n i m σ K) (hfr : rp_fr H0 K) (hQ : ∀ K', r_tk t n i K' → r_N (a_npat σ kd s) K' → K' 40 7 = 0 → rp_fr H0 K' → r_sc K K' → Q (σ 40 16) K' G) : wM_newPattern Q kd s K G := by
  obtain ⟨h1, h2, h3, h4, hk, h16, h27, h56, h31, h55⟩ := h
  have hi := r_i h2
  have e16 : K 40 16 = σ 40 16 := r_N_f h3 16 (by omega)
  unfold wM_newPattern
  rw [e16, e3_w32_id (by omega) (by omega)]
  intro H1 e1
  refine ⟨⟨by omega, by omega⟩, ?_⟩
  intro H2 e2
  refine ⟨⟨by omega, by omega⟩, ?_⟩
  intro H3 e3
  refine ⟨⟨by omega, by omega⟩, ?_⟩
  intro H4 e4
  refine ⟨⟨by omega, by omega⟩, ?_⟩
  intro H5 e5
  refine ⟨⟨by omega, by omega⟩, ?_⟩
  intro H6 e6
  refine ⟨⟨by omega, by omega⟩, ?_⟩
  intro H7 e7
  refine ⟨⟨by omega, by omega⟩, ?_⟩
  intro H8 e8
  refine ⟨⟨by omega, by omega⟩, ?_⟩
  intro H9 e9
  refine ⟨⟨by omega, by omega⟩, ?_⟩
  intro H10 e10
  refine ⟨⟨by omega, by omega⟩, ?_⟩
  intro H11 e11
  have hall : H11 = e3_up (e3_up (e3_up (e3_up (e3_up (e3_up (e3_up (e3_up (e3_up (e3_up (e3_up K 40 16 (σ 40 16 + 1)) 46 (σ 40 16) kd) 47 (σ 40 16) s) 48 (σ 40 16) 0) 49 (σ 40 16) 0) 50 (σ 40 16) 0) 51 (σ 40 16) (-4)) 52 (σ 40 16) (-4)) 53 (σ 40 16) (-4)) 54 (σ 40 16) (-4)) 55 (σ 40 16) 1 := by
    rw [e11, e10, e9, e8, e7, e6, e5, e4, e3, e2, e1]
  refine hQ H11 ?_ ?_ ?_ ?_ ?_
  · rw [hall]
    exact r_tk_up (r_tk_up (r_tk_up (r_tk_up (r_tk_up (r_tk_up (r_tk_up (r_tk_up (r_tk_up (r_tk_up (r_tk_up h1 (by omega) (by omega)) (by omega) (by omega)) (by omega) (by omega)) (by omega) (by omega)) (by omega) (by omega)) (by omega) (by omega)) (by omega) (by omega)) (by omega) (by omega)) (by omega) (by omega)) (by omega) (by omega)) (by omega) (by omega)
  · rw [hall]
    unfold a_npat
    exact r_N_w _ _ _ (r_N_w _ _ _ (r_N_w _ _ _ (r_N_w _ _ _ (r_N_w _ _ _ (r_N_w _ _ _ (r_N_w _ _ _ (r_N_w _ _ _ (r_N_w _ _ _ (r_N_w _ _ _ (r_N_w _ _ _ h3))))))))))
  · rw [hall]
    rw [e3_up_ne (by omega), e3_up_ne (by omega), e3_up_ne (by omega), e3_up_ne (by omega), e3_up_ne (by omega), e3_up_ne (by omega), e3_up_ne (by omega), e3_up_ne (by omega), e3_up_ne (by omega), e3_up_ne (by omega), e3_up_ne (by omega), h4]
  · rw [hall]
    exact rp_up (rp_up (rp_up (rp_up (rp_up (rp_up (rp_up (rp_up (rp_up (rp_up (rp_up hfr (by omega)) (by omega)) (by omega)) (by omega)) (by omega)) (by omega)) (by omega)) (by omega)) (by omega)) (by omega)) (by omega)
  · rw [hall]
    exact sc_up (sc_up (sc_up (sc_up (sc_up (sc_up (sc_up (sc_up (sc_up (sc_up (sc_up (sc_rf K) (by omega)) (by omega)) (by omega)) (by omega)) (by omega)) (by omega)) (by omega)) (by omega)) (by omega)) (by omega)) (by omega)
theorem p_npat {kd s : Int} (h : p_inv σ m i) : k_inv (a_npat σ kd s) m ∧ a_npat σ kd s 40 16 = σ 40 16 + 1 ∧ a_npat σ kd s 40 27 = σ 40 27 ∧ a_npat σ kd s 56 = σ 56 ∧ a_npat σ kd s 57 = σ 57 ∧ a_npat σ kd s 58 = σ 58 ∧ a_npat σ kd s 40 31 = σ 40 31 ∧ a_npat σ kd s 46 (σ 40 16) = kd ∧ a_npat σ kd s 47 (σ 40 16) = s ∧ (∀ q : Int, q ≠ σ 40 16 → a_npat σ kd s 55 q = σ 55 q) ∧ a_npat σ kd s 55 (σ 40 16) = 1 ∧ (∀ a : Int, 42 ≤ a → a ≤ 45 → a_npat σ kd s a = σ a) := by
  obtain ⟨hk, h16, h27, h56, h31, h55⟩ := h
  unfold a_npat
  refine ⟨?_, ?_, ?_, ?_, ?_, ?_, ?_, ?_, ?_, ?_, ?_, ?_⟩
  · exact k_inv_up (k_inv_up (k_inv_up (k_inv_up (k_inv_up (k_inv_up (k_inv_up (k_inv_up (k_inv_up (k_inv_up (k_inv_up hk (by omega)) (by omega)) (by omega)) (by omega)) (by omega)) (by omega)) (by omega)) (by omega)) (by omega)) (by omega)) (by omega)
  · rw [e3_up_ne (by omega), e3_up_ne (by omega), e3_up_ne (by omega), e3_up_ne (by omega), e3_up_ne (by omega), e3_up_ne (by omega), e3_up_ne (by omega), e3_up_ne (by omega), e3_up_ne (by omega), e3_up_ne (by omega), e3_up_self]
  · rw [e3_up_ne (by omega), e3_up_ne (by omega), e3_up_ne (by omega), e3_up_ne (by omega), e3_up_ne (by omega), e3_up_ne (by omega), e3_up_ne (by omega), e3_up_ne (by omega), e3_up_ne (by omega), e3_up_ne (by omega), e3_up_ne (by omega)]
  · funext q
    rw [e3_up_ne (by omega), e3_up_ne (by omega), e3_up_ne (by omega), e3_up_ne (by omega), e3_up_ne (by omega), e3_up_ne (by omega), e3_up_ne (by omega), e3_up_ne (by omega), e3_up_ne (by omega), e3_up_ne (by omega), e3_up_ne (by omega)]
  · funext q
    rw [e3_up_ne (by omega), e3_up_ne (by omega), e3_up_ne (by omega), e3_up_ne (by omega), e3_up_ne (by omega), e3_up_ne (by omega), e3_up_ne (by omega), e3_up_ne (by omega), e3_up_ne (by omega), e3_up_ne (by omega), e3_up_ne (by omega)]
  · funext q
    rw [e3_up_ne (by omega), e3_up_ne (by omega), e3_up_ne (by omega), e3_up_ne (by omega), e3_up_ne (by omega), e3_up_ne (by omega), e3_up_ne (by omega), e3_up_ne (by omega), e3_up_ne (by omega), e3_up_ne (by omega), e3_up_ne (by omega)]
  · rw [e3_up_ne (by omega), e3_up_ne (by omega), e3_up_ne (by omega), e3_up_ne (by omega), e3_up_ne (by omega), e3_up_ne (by omega), e3_up_ne (by omega), e3_up_ne (by omega), e3_up_ne (by omega), e3_up_ne (by omega), e3_up_ne (by omega)]
  · rw [e3_up_ne (by omega), e3_up_ne (by omega), e3_up_ne (by omega), e3_up_ne (by omega), e3_up_ne (by omega), e3_up_ne (by omega), e3_up_ne (by omega), e3_up_ne (by omega), e3_up_ne (by omega), e3_up_self]
  · rw [e3_up_ne (by omega), e3_up_ne (by omega), e3_up_ne (by omega), e3_up_ne (by omega), e3_up_ne (by omega), e3_up_ne (by omega), e3_up_ne (by omega), e3_up_ne (by omega), e3_up_self]
  · intro q hq
    rw [e3_up_ne (by omega), e3_up_ne (by omega), e3_up_ne (by omega), e3_up_ne (by omega), e3_up_ne (by omega), e3_up_ne (by omega), e3_up_ne (by omega), e3_up_ne (by omega), e3_up_ne (by omega), e3_up_ne (by omega), e3_up_ne (by omega)]
  · rw [e3_up_self]
  · intro a h42 h45
    funext q
    rw [e3_up_ne (by omega), e3_up_ne (by omega), e3_up_ne (by omega), e3_up_ne (by omega), e3_up_ne (by omega), e3_up_ne (by omega), e3_up_ne (by omega), e3_up_ne (by omega), e3_up_ne (by omega), e3_up_ne (by omega), e3_up_ne (by omega)]
theorem p_npat_inv {kd s : Int} (h : p_inv σ m i) (hs : σ 40 16 ≤ (i : Int)) : p_inv (a_npat σ kd s) m i := by
  obtain ⟨q1, q2, q3, q4, q5, q6, q7, q8, q9, q10, q11, q12⟩ := p_npat (kd := kd) (s := s) h
  obtain ⟨hk, h16, h27, h56, h31, h55⟩ := h
  refine ⟨q1, by rw [q2]; omega, by rw [q3]; exact h27, by rw [q3, q4]; exact h56, by rw [q7]; exact h31, ?_⟩
  intro q h0 hq
  rw [q2] at hq
  by_cases hz : q = σ 40 16
  · rw [hz, q11]; omega
  · rw [q10 q hz]; exact h55 q h0 (by omega)
/-- what binding a NAME does -/
theorem p_bind {s v k : Int} {σ2 : e3_H} (h : p_inv σ m i) (hb : a_binds σ s v = some (k, σ2)) : p_inv σ2 m i ∧ σ2 40 16 = σ 40 16 ∧ (∀ a : Int, a ≠ 40 → a ≠ 56 → a ≠ 57 → a ≠ 58 → σ2 a = σ a) ∧ (∀ j : Int, j ≠ 31 → σ2 40 j = σ 40 j) ∧ 0 ≤ k ∧ k < 8 := by
  obtain ⟨hk, h16, h27, h56, h31, h55⟩ := h
  have core : ∀ (σ : e3_H) (k : Nat), k < 8 → k_inv σ m → (0 ≤ σ 40 16 ∧ σ 40 16 ≤ (i : Int) + 1) → (0 ≤ σ 40 27 ∧ σ 40 27 < 192) → (0 ≤ σ 56 (σ 40 27) ∧ σ 56 (σ 40 27) ≤ 8) → (0 ≤ σ 40 31 ∧ σ 40 31 < 256) → (∀ q : Int, 0 ≤ q → q < σ 40 16 → 1 ≤ σ 55 q ∧ σ 55 q ≤ 1000) → p_inv (a_bind1 σ s k) m i ∧ a_bind1 σ s k 40 16 = σ 40 16 ∧ (∀ a : Int, a ≠ 40 → a ≠ 58 → a_bind1 σ s k a = σ a) ∧ (∀ j : Int, j ≠ 31 → a_bind1 σ s k 40 j = σ 40 j) := by
    intro σ k hk8 g1 g2 g3 g4 g5 g6
    have hb := b_ok g5 hk8
    have e16 : a_bind1 σ s k 40 16 = σ 40 16 := by unfold a_bind1; rw [e3_up_ne (by omega), e3_up_ne (by omega)]
    have e27 : a_bind1 σ s k 40 27 = σ 40 27 := by unfold a_bind1; rw [e3_up_ne (by omega), e3_up_ne (by omega)]
    refine ⟨⟨?_, by rw [e16]; exact g2, by rw [e27]; exact g3, ?_, ?_, ?_⟩, e16, ?_, ?_⟩
    · unfold a_bind1; exact k_inv_up (k_inv_up g1 (by omega)) (by omega)
    · rw [e27]; unfold a_bind1; rw [e3_up_ne (by omega), e3_up_ne (by omega)]; exact g4
    · unfold a_bind1; rw [e3_up_self]; exact ⟨hb.2.2.2.1, hb.2.2.2.2⟩
    · intro q h0 hq
      rw [e16] at hq
      unfold a_bind1
      rw [e3_up_ne (by omega), e3_up_ne (by omega)]
      exact g6 q h0 hq
    · intro a h1 h2
      funext q
      unfold a_bind1
      rw [e3_up_ne (by omega), e3_up_ne (by omega)]
    · intro j hj
      unfold a_bind1
      rw [e3_up_ne (by omega), e3_up_ne (by omega)]
  unfold a_binds at hb
  split at hb
  · rename_i hneg
    split at hb
    · cases hb
    · rename_i h8
      cases hb
      have f27 : a_bind0 σ v 40 27 = σ 40 27 := by unfold a_bind0; rw [e3_up_ne (by omega), e3_up_ne (by omega)]
      have f16 : a_bind0 σ v 40 16 = σ 40 16 := by unfold a_bind0; rw [e3_up_ne (by omega), e3_up_ne (by omega)]
      have f31 : a_bind0 σ v 40 31 = σ 40 31 := by unfold a_bind0; rw [e3_up_ne (by omega), e3_up_ne (by omega)]
      have f56 : a_bind0 σ v 56 (σ 40 27) = σ 56 (σ 40 27) + 1 := by unfold a_bind0; rw [e3_up_ne (by omega), e3_up_self]
      have fa : ∀ a : Int, a ≠ 56 → a ≠ 57 → a_bind0 σ v a = σ a := by
        intro a h1 h2
        funext q
        unfold a_bind0
        rw [e3_up_ne (by omega), e3_up_ne (by omega)]
      obtain ⟨c1, c2, c3, c4⟩ := core (a_bind0 σ v) (a_nm σ) (by unfold a_nm; omega) (by unfold a_bind0; exact k_inv_up (k_inv_up hk (by omega)) (by omega)) (by rw [f16]; exact h16) (by rw [f27]; exact h27) (by rw [f27, f56]; omega) (by rw [f31]; exact h31) (by rw [f16, fa 55 (by omega) (by omega)]; exact h55)
      refine ⟨c1, by rw [c2, f16], ?_, ?_, by omega, by omega⟩
      · intro a h1 h2 h3 h4
        rw [c3 a h1 h4, fa a h2 h3]
      · intro j hj
        rw [c4 j hj, fa 40 (by omega) (by omega)]
  · rename_i hneg
    split at hb
    · cases hb
    · cases hb
      have hr := a_fd_rg (a_rn σ) v (a_nm σ)
      have hr2 : a_no σ v = a_fd (a_rn σ) v (a_nm σ) := rfl
      have hnm : (a_nm σ : Int) ≤ 8 := by unfold a_nm; omega
      obtain ⟨c1, c2, c3, c4⟩ := core σ (a_no σ v).toNat (by omega) hk h16 h27 h56 h31 h55
      refine ⟨c1, c2, fun a h1 _ _ h4 => c3 a h1 h4, c4, by omega, by omega⟩
theorem cM_binds {Q : Int → e3_H → e3_G → Prop} {s : Int} (h : r_P t n i m σ K) (hty : x_ty t n i = 258) (hfr : rp_fr H0 K) (hok : ∀ k σ2, a_binds σ s (x_wo t n i) = some (k, σ2) → ∀ K', r_P t n i m σ2 K' → rp_fr H0 K' → r_sc K K' → Q k K' G) (hfl : a_binds σ s (x_wo t n i) = none → ∀ K', r_flt (x_sp t n i) K K' → Q (-4) K' G) : wM_binds Q s K G := by
  have hh := h
  obtain ⟨h1, h2, h3, h4, hp⟩ := h
  obtain ⟨hk, h16, h27, h56, h31, h55⟩ := id hp
  have e4 := (r_va h1 (by omega)).1 (by omega) (by omega)
  have e27 : K 40 27 = σ 40 27 := r_N_f h3 27 (by omega)
  have e31 : K 40 31 = σ 40 31 := r_N_f h3 31 (by omega)
  have e56 : K 56 = σ 56 := r_N_at h3 56 (by omega)
  have e5 := h1.2.2.1
  have hr := a_fd_rg (a_rn σ) (x_wo t n i) (a_nm σ)
  have hr2 : a_no σ (x_wo t n i) = a_fd (a_rn σ) (x_wo t n i) (a_nm σ) := rfl
  have hnm : (a_nm σ : Int) = σ 56 (σ 40 27) := by unfold a_nm; omega
  unfold wM_binds
  rw [e4]
  refine cM_nameOf h3 hp ?_
  have flt65 : ∀ K' x, r_flt (x_sp t n i) K K' → a_binds σ s (x_wo t n i) = none → wM_binds_65 Q s x K' G := by
    intro K' x hf hn
    unfold wM_binds_65
    exact brF hf.1 (hfl hn K' hf)
  have go : ∀ (k : Nat) (σ1 K1 : e3_H), k < 8 → r_tk t n i K1 → r_N σ1 K1 → K1 40 7 = 0 → rp_fr H0 K1 → r_sc K K1 → σ1 40 27 = σ 40 27 → σ1 40 31 = σ 40 31 → a_binds σ s (x_wo t n i) = some ((k : Int), a_bind1 σ1 s k) → wM_binds_120 Q s k K1 G := by
    intro k σ1 K1 hk8 g1 g2 g3 g4 gs g5 g6 g7
    have f27 : K1 40 27 = σ 40 27 := by rw [r_N_f g2 27 (by omega), g5]
    have f31 : K1 40 31 = σ 40 31 := by rw [r_N_f g2 31 (by omega), g6]
    have hb := b_ok h31 hk8
    unfold wM_binds_120
    rw [f27, e3_w32_id (x := 8 * σ 40 27) (by omega) (by omega), e3_w32_id (x := 8 * σ 40 27 + k) (by omega) (by omega)]
    refine ⟨⟨by omega, by omega⟩, ?_⟩
    intro H1 q1 H3 q3
    have g31 : H1 40 31 = σ 40 31 := by rw [q1, e3_up_ne (by omega), f31]
    rw [g31, hb.2.2.1] at q3
    refine hok _ _ g7 H3 ⟨?_, h2, ?_, ?_, (p_bind hp g7).1⟩ ?_ ?_
    · rw [q3, q1]; exact r_tk_up (r_tk_up g1 (by omega) (by omega)) (by omega) (by omega)
    · rw [q3, q1]
      unfold a_bind1
      rw [g5, g6]
      exact r_N_w _ _ _ (r_N_w _ _ _ g2)
    · rw [q3, e3_up_ne (by omega), q1, e3_up_ne (by omega), g3]
    · rw [q3, q1]; exact rp_up (rp_up g4 (by omega)) (by omega)
    · rw [q3, q1]; exact sc_up (sc_up gs (by omega)) (by omega)
  have old : 0 ≤ a_no σ (x_wo t n i) → b_bit (σ 40 31) (a_no σ (x_wo t n i)).toNat = false → wM_binds_37 Q s (a_no σ (x_wo t n i)) K G := by
    intro h0 hbit
    unfold wM_binds_37 wM_binds_65
    refine brF (by omega) (brT h4 (brF (by omega) ?_))
    have hg := go (a_no σ (x_wo t n i)).toNat σ K (by omega) h1 h3 h4 hfr (sc_rf K) rfl rfl (by
      unfold a_binds
      rw [if_neg (by omega), if_neg (by rw [hbit]; simp), Int.toNat_of_nonneg h0])
    rw [Int.toNat_of_nonneg h0] at hg
    exact hg
  refine ⟨fun hneg => ?_, fun hneg => ?_⟩
  · unfold wM_binds_37
    rw [e27, e56]
    refine brT hneg ⟨⟨by omega, by omega⟩, ?_⟩
    refine ⟨fun h8 => ?_, fun h8 => ?_⟩
    · have hn : a_binds σ s (x_wo t n i) = none := by unfold a_binds; rw [if_pos hneg, if_pos h8]
      refine cM_fl h4 (by decide) (fun K' hf => ?_)
      rw [e5] at hf
      exact flt65 K' _ hf hn
    · unfold wM_binds_65
      rw [e27, e56]
      refine brT h4 (brT hneg ⟨⟨by omega, by omega⟩, ⟨by omega, by omega⟩, ⟨by omega, by omega⟩, ?_⟩)
      rw [e3_w32_id (x := σ 56 (σ 40 27) + 1) (by omega) (by omega)]
      intro H1 q1
      have f27 : H1 40 27 = σ 40 27 := by rw [q1, e3_up_ne (by omega), e27]
      have f4 : H1 40 4 = x_wo t n i := by rw [q1, e3_up_ne (by omega), e4]
      rw [f27, f4, e3_w32_id (x := 8 * σ 40 27) (by omega) (by omega), e3_w32_id (x := 8 * σ 40 27 + σ 56 (σ 40 27)) (by omega) (by omega)]
      refine ⟨⟨by omega, by omega⟩, ?_⟩
      intro H5 q5
      have hg := go (a_nm σ) (a_bind0 σ (x_wo t n i)) H5 (by omega) (by rw [q5, q1]; exact r_tk_up (r_tk_up h1 (by omega) (by omega)) (by omega) (by omega)) (by rw [q5, q1]; unfold a_bind0; exact r_N_w _ _ _ (r_N_w _ _ _ h3)) (by rw [q5, e3_up_ne (by omega), q1, e3_up_ne (by omega), h4]) (by rw [q5, q1]; exact rp_up (rp_up hfr (by omega)) (by omega)) (by rw [q5, q1]; exact sc_up (sc_up (sc_rf K) (by omega)) (by omega)) (by unfold a_bind0; rw [e3_up_ne (by omega), e3_up_ne (by omega)]) (by unfold a_bind0; rw [e3_up_ne (by omega), e3_up_ne (by omega)]) (by
        unfold a_binds
        rw [if_pos hneg, if_neg h8, hnm])
      rw [hnm] at hg
      exact hg
  · have hk8 : (a_no σ (x_wo t n i)).toNat < 8 := by omega
    have hb := b_ok h31 hk8
    rw [Int.toNat_of_nonneg (by omega)] at hb
    rw [e31]
    refine ⟨fun hbit => ?_, fun hbit => ?_⟩
    · have hn : a_binds σ s (x_wo t n i) = none := by unfold a_binds; rw [if_neg hneg, if_pos (hb.1.mp hbit)]
      refine cM_fl h4 (by decide) (fun K' hf => ?_)
      rw [e5] at hf
      exact flt65 K' _ hf hn
    · refine old (by omega) ?_
      cases hz : b_bit (σ 40 31) (a_no σ (x_wo t n i)).toNat with
      | false => rfl
      | true => exact absurd (hb.1.mpr hz) hbit
end RP
