section AP3
variable {σ : e3_H} {n i m : Nat} {t : Int → Int}
/-- what holds behind a pattern that was read -/
def a_pok (m : Nat) (i : Nat) (σ : e3_H) (j : Nat) (σ2 : e3_H) (p : Int) : Prop := i < j ∧ p = σ 40 16 ∧ σ 40 16 < σ2 40 16 ∧ σ2 40 16 ≤ (j : Int) ∧ p_inv σ2 m j ∧ a_fr (σ 40 16) σ σ2
/-- what holds when a pattern has begun -/
def a_bok (t : Int → Int) (n m : Nat) (s : Int) (i : Nat) (σ : e3_H) (j : Nat) (σ2 : e3_H) (op : Bool) : Prop := i < j ∧ σ2 40 16 = σ 40 16 + 1 ∧ p_inv σ2 m j ∧ a_fr (σ 40 16) σ σ2 ∧ σ2 47 (σ 40 16) = s ∧ σ2 51 (σ 40 16) = -4 ∧ σ2 52 (σ 40 16) = -4 ∧ σ2 54 (σ 40 16) = -4 ∧ σ2 55 (σ 40 16) = 1 ∧
  (op = true → σ2 40 31 = σ 40 31 ∧ ((x_ty t n i = 259 ∧ σ2 46 (σ 40 16) = 5 ∧ σ2 48 (σ 40 16) = a_fd (σ 42) (x_wo t n i) (a_nk σ) ∧ 0 ≤ a_fd (σ 42) (x_wo t n i) (a_nk σ) ∧ a_fd (σ 42) (x_wo t n i) (a_nk σ) < m ∧ σ 44 (a_fd (σ 42) (x_wo t n i) (a_nk σ)) ≠ 0) ∨ (x_ty t n i = 40 ∧ σ2 46 (σ 40 16) = 6)))
theorem a_rng_ok {p pl : Int} {j : Nat} {σ2 : e3_H} {p2 : Int} (h : a_rng t n p pl i σ = .inr (j, σ2, p2)) : i < j ∧ ∃ x y, σ2 = e3_up (e3_up σ 48 p x) 49 p y := by
  have num : ∀ {i j : Nat} {x : Int}, a_num t n i = .inr (j, x) → i < j := by
    intro i j x h
    unfold a_num at h
    split at h
    · split at h
      · cases h; omega
      · cases h
    · split at h
      · cases h; omega
      · cases h
  unfold a_rng at h
  split at h
  · cases h
  · rename_i j1 x h1
    have := num h1
    split at h
    · split at h
      · cases h
      · rename_i j2 y h2
        have := num h2
        split at h
        · cases h
        · cases h
          refine ⟨by omega, x, y, ?_⟩
          funext a k
          unfold e3_up
          by_cases c : a = 49 ∧ k = p
          · simp only [if_pos c]
          · simp only [if_neg c]
    · cases h
      exact ⟨by omega, x, x, rfl⟩
theorem a_kd_ok {s : Int} (hp : p_inv σ m i) (ho : a_okp t n s i σ = true) (h9 : x_ty t n i = 259) : 0 ≤ a_fd (σ 42) (x_wo t n i) (a_nk σ) ∧ a_fd (σ 42) (x_wo t n i) (a_nk σ) < m := by
  unfold a_okp at ho
  rw [if_neg (by omega), if_neg (by omega), if_neg (by omega), if_neg (by omega), if_neg (by omega), if_neg (by omega), if_pos h9] at ho
  have h0 : 0 ≤ a_fd (σ 42) (x_wo t n i) (a_nk σ) := by
    by_cases c : 0 ≤ a_fd (σ 42) (x_wo t n i) (a_nk σ)
    · exact c
    · rw [decide_eq_false c] at ho; simp at ho
  have := a_fd_rg (σ 42) (x_wo t n i) (a_nk σ)
  have hm := k_nk hp.1
  omega
theorem a_at_ok {kd s A T : Int} (hp : p_inv σ m i) (hs : σ 40 16 ≤ (i : Int)) : p_inv (a_at (a_npat σ kd s) (σ 40 16) A T) m i ∧ a_fr (σ 40 16) σ (a_at (a_npat σ kd s) (σ 40 16) A T) ∧ a_at (a_npat σ kd s) (σ 40 16) A T 40 16 = σ 40 16 + 1 ∧ a_at (a_npat σ kd s) (σ 40 16) A T 40 31 = σ 40 31 ∧ a_at (a_npat σ kd s) (σ 40 16) A T 46 (σ 40 16) = kd ∧ a_at (a_npat σ kd s) (σ 40 16) A T 47 (σ 40 16) = s ∧ a_at (a_npat σ kd s) (σ 40 16) A T 48 (σ 40 16) = A ∧ a_at (a_npat σ kd s) (σ 40 16) A T 51 (σ 40 16) = -4 ∧ a_at (a_npat σ kd s) (σ 40 16) A T 52 (σ 40 16) = -4 ∧ a_at (a_npat σ kd s) (σ 40 16) A T 54 (σ 40 16) = -4 ∧ a_at (a_npat σ kd s) (σ 40 16) A T 55 (σ 40 16) = 1 := by
  refine ⟨p_inv_up (p_inv_up (p_npat_inv hp hs) (by omega)) (by omega), fr_up (fr_up (fr_npat kd s) (by omega)) (by omega), ?_, ?_, ?_, ?_, ?_, ?_, ?_, ?_, ?_⟩
  all_goals (unfold a_at a_npat; simp (disch := omega) only [e3_up_self, e3_up_ne])
theorem a_beg_ok {s : Int} {mu op : Bool} {j : Nat} {σ2 : e3_H} (h : a_beg t n s mu i σ = .inr (j, σ2, op)) (hp : p_inv σ m i) (hs : σ 40 16 ≤ (i : Int)) : a_bok t n m s i σ j σ2 op := by
  unfold a_beg at h
  split at h
  · cases h
  rename_i hno
  have ho : a_okp t n s i σ = true := by
    cases hz : a_okp t n s i σ with
    | true => rfl
    | false => exact absurd (Or.inl hz) hno
  have cls : ∀ (kd A T : Int) (j : Nat), i < j → a_bok t n m s i σ j (a_at (a_npat σ kd s) (σ 40 16) A T) false := by
    intro kd A T j hj
    obtain ⟨c1, c2, c3, c4, c5, c6, c7, c8, c9, c10, c11⟩ := a_at_ok (kd := kd) (s := s) (A := A) (T := T) hp hs
    exact ⟨hj, c3, p_inv_le c1 (by omega), c2, c6, c8, c9, c10, c11, fun z => (by cases z)⟩
  split at h
  · split at h
    · cases h
    · rename_i k2 σ3 hb
      cases h
      have p1 := p_npat_inv (kd := 0) (s := s) hp hs
      obtain ⟨u1, u2, u3, u4, u5, u6⟩ := p_bind p1 hb
      have f1 := fr_bind (p0 := σ 40 16) p1 hb
      refine ⟨by omega, ?_, p_inv_le (p_inv_up (p_inv_up (p_inv_up u1 (by omega)) (by omega)) (by omega)) (by omega), fr_up (fr_up (fr_up (fr_tr (fr_npat 0 s) f1 (by omega)) (by omega)) (by omega)) (by omega), ?_, ?_, ?_, ?_, ?_, fun z => (by cases z)⟩
      · unfold a_at; simp (disch := omega) only [e3_up_self, e3_up_ne]; rw [u2]; unfold a_npat; simp (disch := omega) only [e3_up_self, e3_up_ne]
      · unfold a_at; simp (disch := omega) only [e3_up_self, e3_up_ne]; rw [u3 47 (by omega) (by omega) (by omega) (by omega)]; unfold a_npat; simp (disch := omega) only [e3_up_self, e3_up_ne]
      · unfold a_at; simp (disch := omega) only [e3_up_self, e3_up_ne]; rw [u3 51 (by omega) (by omega) (by omega) (by omega)]; unfold a_npat; simp (disch := omega) only [e3_up_self, e3_up_ne]
      · unfold a_at; simp (disch := omega) only [e3_up_self, e3_up_ne]; rw [u3 52 (by omega) (by omega) (by omega) (by omega)]; unfold a_npat; simp (disch := omega) only [e3_up_self, e3_up_ne]
      · unfold a_at; simp (disch := omega) only [e3_up_self, e3_up_ne]; rw [u3 54 (by omega) (by omega) (by omega) (by omega)]; unfold a_npat; simp (disch := omega) only [e3_up_self, e3_up_ne]
      · unfold a_at; simp (disch := omega) only [e3_up_self, e3_up_ne]; rw [u3 55 (by omega) (by omega) (by omega) (by omega)]; unfold a_npat; simp (disch := omega) only [e3_up_self, e3_up_ne]
  split at h
  · split at h
    · cases h
    · rename_i j2 σ3 p3 hr
      cases h
      obtain ⟨hij, x, y, e⟩ := a_rng_ok hr
      subst e
      obtain ⟨c1, c2, c3, c4, c5, c6, c7, c8, c9, c10, c11⟩ := a_at_ok (kd := 1) (s := s) (A := 0) (T := 0) hp hs
      refine ⟨hij, by simp (disch := omega) only [e3_up_self, e3_up_ne]; exact c3, p_inv_le (p_inv_up (p_inv_up c1 (by omega)) (by omega)) (by omega), fr_up (fr_up c2 (by omega)) (by omega), by simp (disch := omega) only [e3_up_self, e3_up_ne]; exact c6, by simp (disch := omega) only [e3_up_self, e3_up_ne]; exact c8, by simp (disch := omega) only [e3_up_self, e3_up_ne]; exact c9, by simp (disch := omega) only [e3_up_self, e3_up_ne]; exact c10, by simp (disch := omega) only [e3_up_self, e3_up_ne]; exact c11, fun z => (by cases z)⟩
  split at h
  · cases h; exact cls _ _ _ _ (by omega)
  split at h
  · cases h; exact cls _ _ _ _ (by omega)
  split at h
  · cases h; exact cls _ _ _ _ (by omega)
  split at h
  · cases h; exact cls _ _ _ _ (by omega)
  split at h
  · rename_i h9
    split at h
    · split at h
      · cases h
      · rename_i hz
        cases h
        obtain ⟨c1, c2, c3, c4, c5, c6, c7, c8, c9, c10, c11⟩ := a_at_ok (kd := 5) (s := s) (A := a_fd (σ 42) (x_wo t n i) (a_nk σ)) (T := 0) hp hs
        have hk := a_kd_ok hp ho h9
        exact ⟨by omega, c3, p_inv_le c1 (by omega), c2, c6, c8, c9, c10, c11, fun _ => ⟨c4, Or.inl ⟨h9, c5, c7, hk.1, hk.2, hz⟩⟩⟩
    · cases h; exact cls _ _ _ _ (by omega)
  split at h
  · rename_i h9
    cases h
    obtain ⟨c1, c2, c3, c4, c5, c6, c7, c8, c9, c10, c11⟩ := a_at_ok (kd := 6) (s := s) (A := 0) (T := 0) hp hs
    exact ⟨by omega, c3, p_inv_le c1 (by omega), c2, c6, c8, c9, c10, c11, fun _ => ⟨c4, Or.inr ⟨h9, c5⟩⟩⟩
  · cases h; exact cls _ _ _ _ (by omega)
/-- a pattern by its beginning -/
def a_rest (t : Int → Int) (n f : Nat) (s : Int) (d i : Nat) (σ : e3_H) (j : Nat) (σ2 : e3_H) : a_R :=
  if x_ty t n i = 259 then a_kids t n (fun s2 i2 σ2 => a_pat t n f s2 (d + 1) false i2 σ2) (σ 40 16) (a_fd (σ 42) (x_wo t n i) (a_nk σ)) (σ 44 (a_fd (σ 42) (x_wo t n i) (a_nk σ))).toNat 0 (-4) j σ2
  else a_alts t n (fun mu2 i2 σ2 => a_pat t n f s (d + 1) mu2 i2 σ2) (σ 40 16) (x_sp t n i) (σ 40 31) 7 0 (-4) 0 (fun _ => 0) false j σ2
theorem a_pat_beg {f : Nat} {s : Int} {d : Nat} {mu : Bool} : a_pat t n (f + 1) s d mu i σ = (match a_beg t n s (mu || decide (6 ≤ d)) i σ with
    | .inl q => .inl q
    | .inr (j, σ2, op) => a_as t n (if op = true then a_rest t n f s d i σ j σ2 else .inr (j, σ2, σ 40 16))) := by
  show (if a_okp t n s i σ = false ∨ mu = true ∨ 6 ≤ d then (Sum.inl (x_sp t n i) : a_R) else _) = _
  unfold a_beg
  have hc : (a_okp t n s i σ = false ∨ mu = true ∨ 6 ≤ d) ↔ (a_okp t n s i σ = false ∨ (mu || decide (6 ≤ d)) = true) := by
    rw [Bool.or_eq_true, decide_eq_true_eq]
  by_cases c0 : a_okp t n s i σ = false ∨ mu = true ∨ 6 ≤ d
  · rw [if_pos c0, if_pos (hc.mp c0)]
  rw [if_neg c0, if_neg (fun z => c0 (hc.mpr z))]
  by_cases c1 : x_ty t n i = 258
  · rw [if_pos c1, if_pos c1]
    cases hb : a_binds (a_npat σ 0 s) s (x_wo t n i) with
    | none => rfl
    | some y => rfl
  rw [if_neg c1, if_neg c1]
  by_cases c2 : x_ty t n i = 260 ∨ x_ty t n i = 45
  · rw [if_pos c2, if_pos c2]
    cases hb : a_rng t n (σ 40 16) (x_sp t n i) i (a_at (a_npat σ 1 s) (σ 40 16) 0 0) with
    | inl q => rfl
    | inr y =>
      obtain ⟨j, σ2, p⟩ := y
      have : p = σ 40 16 := by
        unfold a_rng at hb
        split at hb
        · cases hb
        · split at hb
          · split at hb
            · cases hb
            · split at hb
              · cases hb
              · cases hb; rfl
          · cases hb; rfl
      rw [this]
      rfl
  rw [if_neg c2, if_neg c2]
  by_cases c3 : x_ty t n i = 278
  · rw [if_pos c3, if_pos c3]; rfl
  rw [if_neg c3, if_neg c3]
  by_cases c4 : x_ty t n i = 279
  · rw [if_pos c4, if_pos c4]; rfl
  rw [if_neg c4, if_neg c4]
  by_cases c5 : x_ty t n i = 261
  · rw [if_pos c5, if_pos c5]; rfl
  rw [if_neg c5, if_neg c5]
  by_cases c6 : x_ty t n i = 280
  · rw [if_pos c6, if_pos c6]; rfl
  rw [if_neg c6, if_neg c6]
  by_cases c7 : x_ty t n i = 259
  · rw [if_pos c7, if_pos c7]
    by_cases c8 : x_ty t n (i + 1) = 40
    · rw [if_pos c8, if_pos c8]
      by_cases c9 : σ 44 (a_fd (σ 42) (x_wo t n i) (a_nk σ)) = 0
      · rw [if_pos c9, if_pos c9]; rfl
      · rw [if_neg c9, if_neg c9]
        simp only [a_rest, if_pos c7, if_true]
    · rw [if_neg c8, if_neg c8]; rfl
  rw [if_neg c7, if_neg c7]
  by_cases c8 : x_ty t n i = 40
  · rw [if_pos c8, if_pos c8]
    simp only [a_rest, if_neg c7, if_true]
  rw [if_neg c8, if_neg c8]
  rfl
end AP3
