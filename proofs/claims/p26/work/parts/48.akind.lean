abbrev a_P : Type := Int ⊕ (Nat × e3_H)
def a_nk (σ : e3_H) : Nat := (σ 40 10).toNat
def a_sort (t : Int → Int) (n i : Nat) (σ : e3_H) (much : Bool) : Option Int :=
  if much = true then none else if 275 ≤ x_ty t n i ∧ x_ty t n i ≤ 277 then some (x_ty t n i - 275)
  else if x_ty t n i = 259 ∧ a_fd (σ 42) (x_wo t n i) (a_nk σ) ≠ -4 then some (a_fd (σ 42) (x_wo t n i) (a_nk σ) + 3) else none
def a_pt1 (σ : e3_H) (k : Nat) (s : Int) : e3_H := e3_up (e3_up σ 45 (4 * (k : Int) + σ 44 k) s) 44 k (σ 44 k + 1)
def a_pts (t : Int → Int) (n k : Nat) : Nat → Nat → e3_H → a_P
  | 0, _, _ => .inl 0
  | f + 1, i, σ => match a_sort t n i σ (decide (σ 44 k = 4)) with
    | none => .inl (x_sp t n i)
    | some s => if x_ty t n (i + 1) = 44 then a_pts t n k f (i + 2) (a_pt1 σ k s)
      else if x_ty t n (i + 1) = 41 then .inr (i + 2, a_pt1 σ k s) else .inl (x_sp t n (i + 1))
def a_new (σ : e3_H) (m : Nat) (v : Int) : e3_H := e3_up (e3_up (e3_up (e3_up σ 40 10 ((m + 1 : Nat) : Int)) 42 m v) 43 m (-4)) 44 m 0
/-- behind under -/
def a_und (t : Int → Int) (n m q : Nat) (added : Bool) (σ : e3_H) : a_P :=
  if x_ty t n q ≠ 259 then .inl (x_sp t n q)
  else if a_fd (σ 42) (x_wo t n q) (m + 1) = -4 ∨ a_fd (σ 42) (x_wo t n q) (m + 1) = m then .inl (x_sp t n q)
  else if 0 < σ 44 (a_fd (σ 42) (x_wo t n q) (m + 1)) ∨ (added = true ∧ a_sl (σ 43) (a_fd (σ 42) (x_wo t n q) (m + 1)) (m + 1) = false) then .inl (x_sp t n q)
  else .inr (q + 1, e3_up σ 43 m (a_fd (σ 42) (x_wo t n q) (m + 1)))
def a_knd3 (t : Int → Int) (n : Nat) (r : a_P) : a_P := match r with
  | .inl p => .inl p
  | .inr (j, σ) => if x_ty t n j = 59 then .inr (j + 1, σ) else .inl (x_sp t n j)
def a_knd2 (t : Int → Int) (n m : Nat) (r : a_P) : a_P := match r with
  | .inl p => .inl p
  | .inr (j, σ) => if x_ty t n j = 40 then a_knd3 t n (a_pts t n m 5 (j + 1) σ) else a_knd3 t n (.inr (j, σ))
def a_knd1 (t : Int → Int) (n m i : Nat) (added : Bool) (σ : e3_H) : a_P :=
  if x_ty t n i = 271 then a_und t n m (i + 1) added σ else if added = true then .inl (x_sp t n i) else .inr (i, σ)
/-- a kind, behind the word kind -/
def a_knd (t : Int → Int) (n i : Nat) (added : Bool) (σ : e3_H) : a_P :=
  if x_ty t n i ≠ 259 then .inl (x_sp t n i)
  else if a_fd (σ 42) (x_wo t n i) (a_nk σ) ≠ -4 then .inl (x_sp t n i)
  else if a_nk σ = 24 then .inl (x_sp t n i)
  else a_knd2 t n (a_nk σ) (a_knd1 t n (a_nk σ) (i + 1) added (a_new σ (a_nk σ) (x_wo t n i)))
def k_inv (σ : e3_H) (m : Nat) : Prop := σ 40 10 = m ∧ m ≤ 24 ∧ a_ds (σ 42) m ∧ a_up (σ 43) m ∧ ∀ k : Nat, k < m → 0 ≤ σ 44 k ∧ σ 44 k ≤ 4 ∧ ∀ i : Nat, (i : Int) < σ 44 k → 0 ≤ σ 45 (4 * (k : Int) + i) ∧ σ 45 (4 * (k : Int) + i) < 3 + m
theorem k_nk {σ : e3_H} {m : Nat} (h : k_inv σ m) : a_nk σ = m := by
  unfold a_nk
  rw [h.1]
  omega
theorem x_N_w {σ K : e3_H} (a j v : Int) (h : x_N σ K) : x_N (e3_up σ a j v) (e3_up K a j v) := by
  refine ⟨fun k hk => ?_, fun b k hb => ?_⟩
  · unfold e3_up
    split
    · rfl
    · exact h.1 k hk
  · unfold e3_up
    split
    · rfl
    · exact h.2 b k hb
theorem x_N_at {σ K : e3_H} (h : x_N σ K) (a : Int) (ha : a ≠ 40) : K a = σ a := funext fun k => h.2 a k (by simp only [List.mem_cons, List.not_mem_nil, or_false]; exact ha)
theorem x_N_f {σ K : e3_H} (h : x_N σ K) (k : Int) (hk : 6 < k) : K 40 k = σ 40 k := h.1 k (Or.inr hk)
/-- the new KIND's own rows are written, and no others -/
def k_fr (m : Nat) (H K : e3_H) : Prop := (∀ a k : Int, a ≠ 40 → a ≠ 42 → a ≠ 43 → a ≠ 44 → a ≠ 45 → K a k = H a k) ∧ (∀ k : Int, k ≠ m → K 42 k = H 42 k ∧ K 43 k = H 43 k ∧ K 44 k = H 44 k) ∧ (∀ k : Int, k < 4 * (m : Int) → K 45 k = H 45 k) ∧ (∀ k : Int, k < 2 ∨ 8 < k → k ≠ 10 → K 40 k = H 40 k) ∧ (0 ≤ H 40 7 → 0 ≤ K 40 7)
theorem k_fr_rf (m : Nat) (H : e3_H) : k_fr m H H := ⟨fun _ _ _ _ _ _ _ => rfl, fun _ _ => ⟨rfl, rfl, rfl⟩, fun _ _ => rfl, fun _ _ _ => rfl, id⟩
theorem k_fr_N {m : Nat} {H K K2 : e3_H} (h : k_fr m H K) (h2 : x_N K K2) : k_fr m H K2 := by
  obtain ⟨a, b, c, d, e⟩ := h
  refine ⟨fun x k h1 h3 h4 h5 h6 => ?_, fun k hk => ?_, fun k hk => ?_, fun k hk hk2 => ?_, fun hz => ?_⟩
  · rw [x_N_at h2 x h1]; exact a x k h1 h3 h4 h5 h6
  · rw [x_N_at h2 42 (by decide), x_N_at h2 43 (by decide), x_N_at h2 44 (by decide)]; exact b k hk
  · rw [x_N_at h2 45 (by decide)]; exact c k hk
  · rw [h2.1 k (by omega)]; exact d k hk hk2
  · rw [h2.1 7 (by omega)]; exact e hz
theorem k_fr_f {m : Nat} {H K K2 : e3_H} {pl : Int} (h : k_fr m H K) (h2 : r_flt pl K K2) : k_fr m H K2 := by
  obtain ⟨a, b, c, d, e⟩ := h
  obtain ⟨_, _, f1, f2, f3⟩ := h2
  have at2 : ∀ x : Int, x ≠ 40 → K2 x = K x := fun x hx => funext fun k => f2 x k (by simp only [List.mem_cons, List.not_mem_nil, or_false]; exact hx)
  refine ⟨fun x k h1 h3 h4 h5 h6 => ?_, fun k hk => ?_, fun k hk => ?_, fun k hk hk2 => ?_, fun hz => ?_⟩
  · rw [at2 x h1]; exact a x k h1 h3 h4 h5 h6
  · rw [at2 42 (by decide), at2 43 (by decide), at2 44 (by decide)]; exact b k hk
  · rw [at2 45 (by decide)]; exact c k hk
  · rw [f1 k (by omega) (by omega)]; exact d k hk hk2
  · omega
theorem k_fr_up {m : Nat} {H K : e3_H} {a j v : Int} (h : k_fr m H K) (hc : (a = 42 ∧ j = m) ∨ (a = 43 ∧ j = m) ∨ (a = 44 ∧ j = m) ∨ (a = 45 ∧ 4 * (m : Int) ≤ j) ∨ (a = 40 ∧ j = 10)) : k_fr m H (e3_up K a j v) := by
  obtain ⟨p, b, c, d, e⟩ := h
  refine ⟨fun x k h1 h3 h4 h5 h6 => ?_, fun k hk => ?_, fun k hk => ?_, fun k hk hk2 => ?_, fun hz => ?_⟩
  · rw [e3_up_ne (by omega)]; exact p x k h1 h3 h4 h5 h6
  · rw [e3_up_ne (by omega), e3_up_ne (by omega), e3_up_ne (by omega)]; exact b k hk
  · rw [e3_up_ne (by omega)]; exact c k hk
  · rw [e3_up_ne (by omega)]; exact d k hk hk2
  · rw [e3_up_ne (by omega)]; exact e hz
theorem a_new_at (σ : e3_H) (m : Nat) (v : Int) : a_new σ m v 40 10 = ((m + 1 : Nat) : Int) ∧ a_new σ m v 42 m = v ∧ a_new σ m v 43 m = -4 ∧ a_new σ m v 44 m = 0 ∧ (∀ k : Int, k ≠ m → a_new σ m v 42 k = σ 42 k ∧ a_new σ m v 43 k = σ 43 k ∧ a_new σ m v 44 k = σ 44 k) ∧ (∀ k, a_new σ m v 45 k = σ 45 k) ∧ ∀ k : Int, k ≠ 10 → a_new σ m v 40 k = σ 40 k := by
  unfold a_new
  refine ⟨?_, ?_, ?_, e3_up_self _ _ _ _, ?_, ?_, ?_⟩
  · rw [e3_up_ne (by omega), e3_up_ne (by omega), e3_up_ne (by omega), e3_up_self]
  · rw [e3_up_ne (by omega), e3_up_ne (by omega), e3_up_self]
  · rw [e3_up_ne (by omega), e3_up_self]
  · intro k hk
    refine ⟨?_, ?_, ?_⟩
    · rw [e3_up_ne (by omega), e3_up_ne (by omega), e3_up_ne (by omega), e3_up_ne (by omega)]
    · rw [e3_up_ne (by omega), e3_up_ne (by omega), e3_up_ne (by omega), e3_up_ne (by omega)]
    · rw [e3_up_ne (by omega), e3_up_ne (by omega), e3_up_ne (by omega), e3_up_ne (by omega)]
  · intro k
    rw [e3_up_ne (by omega), e3_up_ne (by omega), e3_up_ne (by omega), e3_up_ne (by omega)]
  · intro k hk
    rw [e3_up_ne (by omega), e3_up_ne (by omega), e3_up_ne (by omega), e3_up_ne (by omega)]
theorem k_new {σ : e3_H} {m : Nat} {v : Int} (h : k_inv σ m) (hm : m < 24) (hv : a_fd (σ 42) v m = -4) : k_inv (a_new σ m v) (m + 1) := by
  obtain ⟨h1, h2, h3, h4, h5⟩ := h
  obtain ⟨e1, e2, e3, e4, e5, e6, _⟩ := a_new_at σ m v
  have hno := a_fd_no m hv
  refine ⟨e1, by omega, ?_, ?_, ?_⟩
  · intro j l hj hl he
    by_cases hjm : j = m
    · by_cases hlm : l = m
      · omega
      · subst hjm
        rw [e2, (e5 l (by omega)).1] at he
        exact absurd he.symm (hno l (by omega))
    · by_cases hlm : l = m
      · subst hlm
        rw [e2, (e5 j (by omega)).1] at he
        exact absurd he (hno j (by omega))
      · rw [(e5 j (by omega)).1, (e5 l (by omega)).1] at he
        exact h3 j l (by omega) (by omega) he
  · intro k hk
    by_cases hkm : k = m
    · subst hkm; exact Or.inl e3
    · rw [(e5 k (by omega)).2.1]
      exact h4 k (by omega)
  · intro k hk
    by_cases hkm : k = m
    · subst hkm
      rw [e4]
      exact ⟨by omega, by omega, fun i hi => by omega⟩
    · rw [(e5 k (by omega)).2.2]
      obtain ⟨a, b, c⟩ := h5 k (by omega)
      refine ⟨a, b, fun i hi => ?_⟩
      rw [e6]
      have := c i hi
      omega
theorem k_part {σ : e3_H} {m k : Nat} {s : Int} (h : k_inv σ m) (hk : k < m) (h4 : σ 44 k < 4) (hs : 0 ≤ s ∧ s < 3 + m) : k_inv (a_pt1 σ k s) m ∧ a_pt1 σ k s 44 k = σ 44 k + 1 := by
  obtain ⟨h1, h2, h3, hu, h5⟩ := h
  have hk44 := h5 k hk
  unfold a_pt1
  refine ⟨⟨?_, h2, ?_, ?_, ?_⟩, e3_up_self _ _ _ _⟩
  · rw [e3_up_ne (by omega), e3_up_ne (by omega), h1]
  · intro j l hj hl he
    rw [e3_up_ne (by omega), e3_up_ne (by omega), e3_up_ne (by omega), e3_up_ne (by omega)] at he
    exact h3 j l hj hl he
  · intro j hj
    rw [e3_up_ne (by omega), e3_up_ne (by omega)]
    exact hu j hj
  · intro j hj
    by_cases hjk : j = k
    · subst hjk
      rw [e3_up_self]
      refine ⟨by omega, by omega, fun i hi => ?_⟩
      rw [e3_up_ne (by omega)]
      by_cases hi2 : (i : Int) = σ 44 j
      · rw [hi2, e3_up_self]; exact hs
      · rw [e3_up_ne (by omega)]; exact hk44.2.2 i (by omega)
    · have hj5 := h5 j hj
      rw [e3_up_ne (by omega), e3_up_ne (by omega)]
      refine ⟨hj5.1, hj5.2.1, fun i hi => ?_⟩
      have hlt : (i : Int) < 4 := by have := hj5.2.1; omega
      rw [e3_up_ne (by omega), e3_up_ne (by omega)]
      exact hj5.2.2 i hi
theorem a_sort_rg {t : Int → Int} {n i m : Nat} {σ : e3_H} {much : Bool} {s : Int} (h : k_inv σ m) (he : a_sort t n i σ much = some s) : 0 ≤ s ∧ s < 3 + m ∧ x_nf t n i ∧ much = false := by
  unfold a_sort at he
  rw [k_nk h] at he
  split at he
  · cases he
  · rename_i hmu
    have hmu2 : much = false := by cases much <;> simp_all
    split at he
    · rename_i hc
      cases he
      exact ⟨by omega, by omega, ⟨by omega, by omega⟩, hmu2⟩
    · split at he
      · rename_i hc
        cases he
        rcases a_fd_rg (σ 42) (x_wo t n i) m with h1 | ⟨h1, h2, h3⟩
        · exact absurd h1 hc.2
        · exact ⟨by omega, by omega, ⟨by omega, by omega⟩, hmu2⟩
      · cases he
