/-- FUNCTIONS: the state's tables 67 .. 70 -/
def a_nf (σ : e3_H) : Nat := (σ 40 41).toNat
def a_cl1 (σ : e3_H) (f s : Int) : e3_H := e3_up (e3_up σ 69 (3 * f + σ 68 f) s) 68 f (σ 68 f + 1)
def a_cls (t : Int → Int) (n : Nat) (f : Int) : Nat → Nat → e3_H → a_S
  | 0, _, _ => .inl 0
  | g + 1, i, σ => match a_sort t n i σ (decide (σ 68 f = 3)) with
    | none => .inl (x_sp t n i)
    | some s => if x_ty t n (i + 1) = 44 then a_cls t n f g (i + 2) (a_cl1 σ f s)
      else if x_ty t n (i + 1) = 41 then .inr (i + 2, a_cl1 σ f s) else .inl (x_sp t n (i + 1))
def a_rules (t : Int → Int) (n : Nat) (f : Int) : Nat → Nat → e3_H → a_S
  | 0, _, _ => .inl 0
  | g + 1, i, σ => if x_ty t n i = 125 then .inr (i + 1, σ) else match a_rule t n f i σ with
    | .inl q => .inl q
    | .inr (j, σ2) => a_rules t n f g j σ2
def a_fnew (σ : e3_H) (f v : Int) : e3_H := e3_up (e3_up (e3_up (e3_up σ 40 41 (f + 1)) 67 f v) 68 f 0) 70 f 0
/-- behind the columns -/
def a_fun2 (t : Int → Int) (n : Nat) (f : Int) (r : a_S) : a_S := match r with
  | .inl q => .inl q
  | .inr (j, σ1) => if x_ty t n j = 123 then a_rules t n f 17 (j + 1) σ1 else .inl (x_sp t n j)
/-- a FUNCTION, behind the word sort -/
def a_fun (t : Int → Int) (n i : Nat) (σ : e3_H) : a_S :=
  if x_ty t n i ≠ 258 then .inl (x_sp t n i)
  else if a_fd (σ 67) (x_wo t n i) (a_nf σ) ≠ -4 then .inl (x_sp t n i)
  else if σ 40 41 = 12 then .inl (x_sp t n i)
  else if x_ty t n (i + 1) ≠ 40 then .inl (x_sp t n (i + 1))
  else a_fun2 t n (σ 40 41) (a_cls t n (σ 40 41) 4 (i + 2) (a_fnew σ (σ 40 41) (x_wo t n i)))
def c_ok (σ : e3_H) (m : Nat) (f : Int) : Prop := (0 ≤ σ 68 f ∧ σ 68 f ≤ 3) ∧ ∀ c : Nat, (c : Int) < σ 68 f → 0 ≤ σ 69 (3 * f + c) ∧ σ 69 (3 * f + c) < 3 + m
theorem c_ok_eq {σ σ2 : e3_H} {m : Nat} {f : Int} (h : c_ok σ m f) (h68 : σ2 68 f = σ 68 f) (h69 : ∀ c : Nat, c < 3 → σ2 69 (3 * f + c) = σ 69 (3 * f + c)) : c_ok σ2 m f := by
  obtain ⟨h1, h2⟩ := h
  refine ⟨by rw [h68]; exact h1, fun c hc => ?_⟩
  rw [h68] at hc
  rw [h69 c (by omega)]
  exact h2 c hc
theorem cl1_ok {σ : e3_H} {m : Nat} {f s : Int} (h : c_ok σ m f) (h3 : σ 68 f < 3) (hs : 0 ≤ s ∧ s < 3 + m) : c_ok (a_cl1 σ f s) m f ∧ a_cl1 σ f s 68 f = σ 68 f + 1 := by
  obtain ⟨h1, h2⟩ := h
  unfold a_cl1
  refine ⟨⟨by rw [e3_up_self]; omega, fun c hc => ?_⟩, e3_up_self _ _ _ _⟩
  rw [e3_up_self] at hc
  rw [e3_up_ne (by omega)]
  by_cases hz : (c : Int) = σ 68 f
  · rw [hz, e3_up_self]; exact hs
  · rw [e3_up_ne (by omega)]; exact h2 c (by omega)
section RF
variable {H0 : e3_H} {G : e3_G} {n m : Nat} {t : Int → Int}
theorem p_w_up {σ : e3_H} {a j v : Int} (h : p_w σ m) (ha : (46 ≤ a ∧ a ≤ 54) ∨ 56 ≤ a ∨ (a = 40 ∧ j ≠ 10 ∧ j ≠ 16)) : p_w (e3_up σ a j v) m := by
  obtain ⟨h1, h2, h3⟩ := h
  refine ⟨k_inv_up h1 (by omega), by rw [e3_up_ne (by omega)]; exact h2, fun q h0 hq => ?_⟩
  rw [e3_up_ne (by omega)] at hq ⊢
  exact h3 q h0 hq
theorem r_T_up {σ K : e3_H} {i : Nat} {a j v : Int} (h : r_T t n i m σ K) (ha : (46 ≤ a ∧ a ≤ 54) ∨ 67 ≤ a ∨ (a = 40 ∧ j = 41)) : r_T t n i m (e3_up σ a j v) (e3_up K a j v) := ⟨⟨r_tk_up h.1.1 (by omega) (by omega), h.1.2.1, r_N_w _ _ _ h.1.2.2.1, by rw [e3_up_ne (by omega)]; exact h.1.2.2.2.1, p_w_up h.1.2.2.2.2 (by omega)⟩, by rw [e3_up_ne (by omega)]; exact h.2⟩
theorem r_T_s {σ K K2 : e3_H} {i : Nat} (h : r_T t n i m σ K) (hf : x_nf t n i) (a : r_tk t n (i + 1) K2) (b : x_N K K2) : r_T t n (i + 1) m σ K2 := ⟨⟨a, r_in_s h.1.2.1 hf, r_N_tr h.1.2.2.1 b, by rw [x_N_f b 7 (by omega)]; exact h.1.2.2.2.1, h.1.2.2.2.2⟩, by have := h.2; omega⟩
theorem cM_functionOf {Q : Int → e3_H → e3_G → Prop} {H : e3_H} {v : Int} {k : Nat} (hm : H 40 41 = (k : Int)) (hm2 : k ≤ 12) (hQ : Q (a_fd (H 67) v k) H G) : wM_functionOf Q v H G := by
  have key : ∀ (f j : Nat), j + f = k → wM_functionOf_6 Q (f + 1) v (a_fd (H 67) v j) j H G := by
    intro f
    induction f with
    | zero =>
      intro j hj
      have : j = k := by omega
      subst this
      exact brF (by rw [hm]; omega) hQ
    | succ f ih =>
      intro j hj
      refine brT (by rw [hm]; omega) ⟨⟨by omega, by omega⟩, ?_⟩
      have h := ih (j + 1) (by omega)
      by_cases hv : H 67 j = v
      · refine brT hv ?_
        unfold wM_functionOf_33
        rw [w_p1 (by omega)]
        have e : a_fd (H 67) v (j + 1) = j := by show (if H 67 j = v then (j : Int) else _) = _; rw [if_pos hv]
        rw [e] at h
        exact h
      · refine brF hv ?_
        unfold wM_functionOf_33
        rw [w_p1 (by omega)]
        have e : a_fd (H 67) v (j + 1) = a_fd (H 67) v j := by show (if H 67 j = v then (j : Int) else _) = _; rw [if_neg hv]
        rw [e] at h
        exact h
  exact ⟨k + 1, key k 0 (by omega)⟩
/-- behind a fault nothing more is read of a FUNCTION -/
theorem cM_f233 {Q : e3_H → e3_G → Prop} {K : e3_H} (h0 : K 40 7 ≠ 0) (hQ : Q K G) : wM_readFunction_233 Q K G := by
  unfold wM_readFunction_233
  exact cM_musted h0 hQ
theorem cM_f209 {Q : e3_H → e3_G → Prop} {K : e3_H} {f : Int} (h0 : K 40 7 ≠ 0) (hQ : Q K G) (g : Nat) : wM_readFunction_209 Q (g + 1) f K G := brF h0 (cM_f233 h0 hQ)
theorem cM_f197 {Q : e3_H → e3_G → Prop} {K : e3_H} {f : Int} (h0 : K 40 7 ≠ 0) (hQ : Q K G) : wM_readFunction_197 Q f K G := by
  unfold wM_readFunction_197
  exact cM_musted h0 (cM_musted h0 ⟨1, cM_f209 h0 hQ 0⟩)
theorem cM_cls {Q : e3_H → e3_G → Prop} {f : Int} (hf : 0 ≤ f ∧ f < 12) : ∀ (g i : Nat) (σ K : e3_H), r_T t n i m σ K → f_fr H0 K → c_ok σ m f → 3 - (σ 68 f).toNat < g →
    (∀ j σ2, a_cls t n f g i σ = .inr (j, σ2) → ∀ K', r_T t n j m σ2 K' → f_fr H0 K' → c_ok σ2 m f → 1 ≤ σ2 68 f → wM_must (fun H4 G5 => (∃ n, wM_readFunction_209 Q n f H4 G5)) 123 K' G) →
    (∀ q, a_cls t n f g i σ = .inl q → ∀ K', r_bd q H0 K' → Q K' G) → wM_readFunction_123 Q (g + 1) f 1 K G := by
  intro g
  induction g with
  | zero => intro i σ K _ _ _ hg; omega
  | succ g ih =>
    intro i σ K h hfr hc hg hok hfl
    have e68 : K 68 f = σ 68 f := by rw [r_N_at h.1.2.2.1 68 (by omega)]
    have h68 := hc.1
    refine brF (by decide) (brT h.1.2.2.2.1 ⟨hf, ?_⟩)
    have core : ∀ mu : Int, (mu = 0 ∧ σ 68 f ≠ 3) ∨ (mu = 1 ∧ σ 68 f = 3) → wM_readFunction_150 Q (fun l1 l2 H G => wM_readFunction_123 Q (g + 1) l1 l2 H G) f mu K G := by
      intro mu hmu
      have hdec : decide (mu = 1) = decide (σ 68 f = 3) := by
        rcases hmu with ⟨a, b⟩ | ⟨a, b⟩
        · rw [a]; simp [b]
        · rw [a, b]; rfl
      have hu : a_cls t n f (g + 1) i σ = (match a_sort t n i σ (decide (σ 68 f = 3)) with
        | none => .inl (x_sp t n i : Int)
        | some s => if x_ty t n (i + 1) = 44 then a_cls t n f g (i + 2) (a_cl1 σ f s)
          else if x_ty t n (i + 1) = 41 then .inr (i + 2, a_cl1 σ f s) else .inl (x_sp t n (i + 1) : Int)) := rfl
      rw [hu] at hok hfl
      unfold wM_readFunction_150
      refine cM_readSort h.1.1 h.1.2.1 h.1.2.2.1 h.1.2.2.2.2.1 h.1.2.2.2.1 (by omega) (fun s hs K1 a b => ?_) (fun hs x K1 hf1 => ?_)
      · rw [hdec] at hs
        have hr := a_sort_rg h.1.2.2.2.2.1 hs
        have hlt : σ 68 f < 3 := by
          have : ¬ σ 68 f = 3 := by simpa using hr.2.2.2
          omega
        rw [hs] at hok hfl
        simp only at hok hfl
        have h1 := r_T_s h hr.2.2.1 a b
        have k68 : K1 68 f = σ 68 f := by rw [r_N_at h1.1.2.2.1 68 (by omega)]
        refine brT h1.1.2.2.2.1 ⟨hf, ?_⟩
        rw [k68, e3_w32_id (x := 3 * f) (by omega) (by omega), e3_w32_id (x := 3 * f + σ 68 f) (by omega) (by omega)]
        refine ⟨by omega, ?_⟩
        intro H4 e4
        refine ⟨hf, hf, ?_⟩
        intro H7 e7
        have g68 : H4 68 f = σ 68 f := by rw [e4, e3_up_ne (by omega), k68]
        rw [g68, e3_w32_id (by omega) (by omega)] at e7
        have h7 : r_T t n (i + 1) m (a_cl1 σ f s) H7 := by
          rw [e7, e4]
          exact r_T_up (r_T_up h1 (by omega)) (by omega)
        have f7 : f_fr H0 H7 := by rw [e7, e4]; exact f_up (f_up (f_N hfr b) (by omega)) (by omega)
        obtain ⟨k2, k3⟩ := cl1_ok hc hlt ⟨hr.1, hr.2.1⟩
        unfold wM_readFunction_187
        refine cM_takes h7.1.1 h7.1.2.1 h7.1.2.2.2.1 (by decide) (fun he K2 c d => ?_) (fun he => ?_)
        · rw [if_pos he] at hok hfl
          exact ih (i + 2) (a_cl1 σ f s) K2 (r_T_s h7 ⟨by omega, by omega⟩ c d) (f_N f7 d) k2 (by rw [k3]; omega) hok hfl
        · rw [if_neg he] at hok hfl
          refine brT rfl ?_
          unfold wM_readFunction_197
          refine cM_must h7.1.1 h7.1.2.1 h7.1.2.2.2.1 (by decide) (fun he2 K2 c d => ?_) (fun he2 K2 hf2 => ?_)
          · rw [if_pos he2] at hok
            exact hok _ _ rfl K2 (r_T_s h7 ⟨by omega, by omega⟩ c d) (f_N f7 d) k2 (by rw [k3]; omega)
          · rw [if_neg he2] at hfl
            exact cM_musted hf2.1 ⟨1, cM_f209 hf2.1 (hfl _ rfl K2 (bd_f f7 hf2)) 0⟩
      · rw [hdec] at hs
        rw [hs] at hfl
        simp only at hfl
        refine brF hf1.1 ?_
        unfold wM_readFunction_187
        refine cM_taken hf1.1 ?_
        exact brT rfl (cM_f197 hf1.1 (hfl _ rfl K1 (bd_f hfr hf1)))
    rw [e68]
    exact ⟨fun hq => core 1 (Or.inr ⟨rfl, hq⟩), fun hq => core 0 (Or.inl ⟨rfl, hq⟩)⟩
end RF
