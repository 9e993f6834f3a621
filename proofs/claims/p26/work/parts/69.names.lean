/-- NAMES of rule r: those bound are there, their SORTS are SORTS -/
def nm_inv (r : Int) (m : Nat) (σ : e3_H) : Prop := (∀ k : Nat, k < 8 → b_bit (σ 40 31) k = true → (k : Int) < σ 56 r) ∧ ∀ k : Nat, (k : Int) < σ 56 r → 0 ≤ σ 58 (8 * r + k) ∧ σ 58 (8 * r + k) < 3 + m
def nm_post (r : Int) (σ σ2 : e3_H) : Prop := (∀ k : Nat, k < 8 → b_bit (σ 40 31) k = true → b_bit (σ2 40 31) k = true) ∧ (∀ k : Nat, k < 8 → σ 56 r ≤ (k : Int) → (k : Int) < σ2 56 r → b_bit (σ2 40 31) k = true) ∧ (∀ k : Nat, k < 8 → b_bit (σ 40 31) k = true → σ2 58 (8 * r + k) = σ 58 (8 * r + k)) ∧ σ 56 r ≤ σ2 56 r
theorem np_tr {r : Int} {σ σ2 σ3 : e3_H} (h : nm_post r σ σ2) (h2 : nm_post r σ2 σ3) : nm_post r σ σ3 := by
  refine ⟨fun k hk hb => h2.1 k hk (h.1 k hk hb), fun k hk h1 h3 => ?_, fun k hk hb => (h2.2.2.1 k hk (h.1 k hk hb)).trans (h.2.2.1 k hk hb), by have := h.2.2.2; have := h2.2.2.2; omega⟩
  by_cases c : (k : Int) < σ2 56 r
  · exact h2.1 k hk (h.2.1 k hk h1 c)
  · exact h2.2.1 k hk (by omega) h3
theorem nm_eq {r : Int} {m : Nat} {σ σ2 : e3_H} (h : nm_inv r m σ) (e31 : σ2 40 31 = σ 40 31) (e56 : σ2 56 = σ 56) (e58 : σ2 58 = σ 58) : nm_inv r m σ2 ∧ nm_post r σ σ2 := by
  unfold nm_inv nm_post
  rw [e31, e56, e58]
  exact ⟨h, fun _ _ hb => hb, fun k hk h1 h2 => by omega, fun _ _ _ => rfl, by omega⟩
theorem nm_bind {σ σ2 : e3_H} {m i : Nat} {r s v k : Int} (hp : p_inv σ m i) (hr : σ 40 27 = r) (hn : nm_inv r m σ) (hs : 0 ≤ s ∧ s < 3 + m) (hb : a_binds σ s v = some (k, σ2)) : nm_inv r m σ2 ∧ nm_post r σ σ2 := by
  subst hr
  obtain ⟨hk, h16, h27, h56, h31, h55⟩ := hp
  unfold a_binds at hb
  split at hb
  · split at hb
    · cases hb
    · rename_i h8
      cases hb
      unfold a_bind1 a_bind0 a_nm
      generalize hr : σ 40 27 = r at *
      generalize hc : σ 56 r = c at *
      obtain ⟨w, rfl⟩ : ∃ w : Nat, c = (w : Int) := ⟨c.toNat, (Int.toNat_of_nonneg h56.1).symm⟩
      have e27 : (e3_up (e3_up σ 56 r ((w : Int) + 1)) 57 (8 * r + w) v) 40 27 = r := by simp (disch := omega) only [e3_up_self, e3_up_ne]; exact hr
      have e31 : (e3_up (e3_up σ 56 r ((w : Int) + 1)) 57 (8 * r + w) v) 40 31 = σ 40 31 := by simp (disch := omega) only [e3_up_self, e3_up_ne]
      rw [e27, e31, Int.toNat_natCast]
      have q56 : (e3_up (e3_up (e3_up (e3_up σ 56 r ((w : Int) + 1)) 57 (8 * r + w) v) 58 (8 * r + w) s) 40 31 (b_set (σ 40 31) w)) 56 r = (w : Int) + 1 := by simp (disch := omega) only [e3_up_self, e3_up_ne]
      have q31 : (e3_up (e3_up (e3_up (e3_up σ 56 r ((w : Int) + 1)) 57 (8 * r + w) v) 58 (8 * r + w) s) 40 31 (b_set (σ 40 31) w)) 40 31 = b_set (σ 40 31) w := by simp (disch := omega) only [e3_up_self, e3_up_ne]
      have q58 : ∀ j : Nat, (e3_up (e3_up (e3_up (e3_up σ 56 r ((w : Int) + 1)) 57 (8 * r + w) v) 58 (8 * r + w) s) 40 31 (b_set (σ 40 31) w)) 58 (8 * r + j) = if j = w then s else σ 58 (8 * r + j) := by
        intro j
        by_cases c : j = w
        · subst c; rw [if_pos rfl]; simp (disch := omega) only [e3_up_self, e3_up_ne]
        · rw [if_neg c]; simp (disch := omega) only [e3_up_self, e3_up_ne]
      unfold nm_inv nm_post
      rw [q56, q31, hc]
      unfold nm_inv at hn
      rw [hc] at hn
      refine ⟨⟨fun j hj hb => ?_, fun j hj => ?_⟩, fun j hj hb => ?_, fun j hj h1 h2 => ?_, fun j hj hb => ?_, by omega⟩
      · rw [b_set_bit h31 (by omega) hj, Bool.or_eq_true, decide_eq_true_eq] at hb
        rcases hb with hb | hb
        · have := hn.1 j hj hb; omega
        · omega
      · rw [q58 j]
        by_cases c : j = w
        · rw [if_pos c]; exact hs
        · rw [if_neg c]; exact hn.2 j (by omega)
      · rw [b_set_bit h31 (by omega) hj, hb]; rfl
      · rw [b_set_bit h31 (by omega) hj, decide_eq_true (show j = w by omega)]; simp
      · have := hn.1 j hj hb
        rw [q58 j, if_neg (by omega)]
  · split at hb
    · cases hb
    · rename_i hneg hbit
      cases hb
      have hr := a_fd_rg (a_rn σ) v (a_nm σ)
      have hr2 : a_no σ v = a_fd (a_rn σ) v (a_nm σ) := rfl
      have hnm : (a_nm σ : Int) = σ 56 (σ 40 27) := Int.toNat_of_nonneg h56.1
      rw [← hr2] at hr
      unfold a_bind1
      generalize a_no σ v = c at *
      obtain ⟨w, rfl⟩ : ∃ w : Nat, c = (w : Int) := ⟨c.toNat, (Int.toNat_of_nonneg (by omega)).symm⟩
      rw [Int.toNat_natCast] at hbit ⊢
      generalize hrr : σ 40 27 = r at *
      have q56 : (e3_up (e3_up σ 58 (8 * r + w) s) 40 31 (b_set (σ 40 31) w)) 56 = σ 56 := by funext x; simp (disch := omega) only [e3_up_self, e3_up_ne]
      have q31 : (e3_up (e3_up σ 58 (8 * r + w) s) 40 31 (b_set (σ 40 31) w)) 40 31 = b_set (σ 40 31) w := by simp (disch := omega) only [e3_up_self, e3_up_ne]
      have q58 : ∀ j : Nat, (e3_up (e3_up σ 58 (8 * r + w) s) 40 31 (b_set (σ 40 31) w)) 58 (8 * r + j) = if j = w then s else σ 58 (8 * r + j) := by
        intro j
        by_cases c : j = w
        · subst c; rw [if_pos rfl]; simp (disch := omega) only [e3_up_self, e3_up_ne]
        · rw [if_neg c]; simp (disch := omega) only [e3_up_self, e3_up_ne]
      unfold nm_inv nm_post
      rw [q56, q31]
      refine ⟨⟨fun j hj hb => ?_, fun j hj => ?_⟩, fun j hj hb => ?_, fun j hj h1 h2 => by omega, fun j hj hb => ?_, by omega⟩
      · rw [b_set_bit h31 (by omega) hj, Bool.or_eq_true, decide_eq_true_eq] at hb
        rcases hb with hb | hb
        · exact hn.1 j hj hb
        · omega
      · rw [q58 j]
        by_cases c : j = w
        · rw [if_pos c]; exact hs
        · rw [if_neg c]; exact hn.2 j hj
      · rw [b_set_bit h31 (by omega) hj, hb]; rfl
      · rw [q58 j]
        by_cases c : j = w
        · subst c; rw [hb] at hbit; exact absurd rfl hbit
        · rw [if_neg c]
section NM
variable {n m : Nat} {t : Int → Int} {r : Int}
theorem nm_beg {σ σ2 : e3_H} {s : Int} {mu op : Bool} {i j : Nat} (h : a_beg t n s mu i σ = .inr (j, σ2, op)) (hp : p_inv σ m i) (hst : σ 40 16 ≤ (i : Int)) (hr : σ 40 27 = r) (hn : nm_inv r m σ) (hs : 0 ≤ s ∧ s < 3 + m) : nm_inv r m σ2 ∧ nm_post r σ σ2 := by
  unfold a_beg at h
  have np : ∀ kd A T : Int, nm_inv r m (a_at (a_npat σ kd s) (σ 40 16) A T) ∧ nm_post r σ (a_at (a_npat σ kd s) (σ 40 16) A T) := fun kd A T => nm_eq hn (by unfold a_at a_npat; simp (disch := omega) only [e3_up_self, e3_up_ne]) (by funext x; unfold a_at a_npat; simp (disch := omega) only [e3_up_self, e3_up_ne]) (by funext x; unfold a_at a_npat; simp (disch := omega) only [e3_up_self, e3_up_ne])
  split at h
  · cases h
  split at h
  · split at h
    · cases h
    · rename_i k2 σ3 hb
      cases h
      have p1 := p_npat_inv (kd := 0) (s := s) hp hst
      have n1 : nm_inv r m (a_npat σ 0 s) ∧ nm_post r σ (a_npat σ 0 s) := nm_eq hn (by unfold a_npat; simp (disch := omega) only [e3_up_self, e3_up_ne]) (by funext x; unfold a_npat; simp (disch := omega) only [e3_up_self, e3_up_ne]) (by funext x; unfold a_npat; simp (disch := omega) only [e3_up_self, e3_up_ne])
      have n2 := nm_bind p1 (by unfold a_npat; simp (disch := omega) only [e3_up_self, e3_up_ne]; exact hr) n1.1 hs hb
      have n3 : nm_inv r m (a_at (e3_up σ3 53 (σ 40 16) k2) (σ 40 16) 0 0) ∧ nm_post r σ3 (a_at (e3_up σ3 53 (σ 40 16) k2) (σ 40 16) 0 0) := nm_eq n2.1 (by unfold a_at; simp (disch := omega) only [e3_up_self, e3_up_ne]) (by funext x; unfold a_at; simp (disch := omega) only [e3_up_self, e3_up_ne]) (by funext x; unfold a_at; simp (disch := omega) only [e3_up_self, e3_up_ne])
      exact ⟨n3.1, np_tr n1.2 (np_tr n2.2 n3.2)⟩
  split at h
  · split at h
    · cases h
    · rename_i j2 σ3 p3 hr3
      cases h
      obtain ⟨hij, x, y, e⟩ := a_rng_ok hr3
      subst e
      have n1 := np 1 0 0
      have n3 := nm_eq (σ2 := e3_up (e3_up (a_at (a_npat σ 1 s) (σ 40 16) 0 0) 48 (σ 40 16) x) 49 (σ 40 16) y) n1.1 (by simp (disch := omega) only [e3_up_self, e3_up_ne]) (by funext x; simp (disch := omega) only [e3_up_self, e3_up_ne]) (by funext x; simp (disch := omega) only [e3_up_self, e3_up_ne])
      exact ⟨n3.1, np_tr n1.2 n3.2⟩
  split at h
  · cases h; exact np _ _ _
  split at h
  · cases h; exact np _ _ _
  split at h
  · cases h; exact np _ _ _
  split at h
  · cases h; exact np _ _ _
  split at h
  · split at h
    · split at h
      · cases h
      · cases h; exact np _ _ _
    · cases h; exact np _ _ _
  split at h
  · cases h; exact np _ _ _
  · cases h; exact np _ _ _
theorem nm_as {σ1 σ2 : e3_H} {j j2 : Nat} {p p2 : Int} (h : a_as t n (.inr (j, σ1, p)) = .inr (j2, σ2, p2)) (hp : p_inv σ1 m j) (hr : σ1 40 27 = r) (hn : nm_inv r m σ1) (hs : 0 ≤ σ1 47 p ∧ σ1 47 p < 3 + m) : nm_inv r m σ2 ∧ nm_post r σ1 σ2 := by
  unfold a_as at h
  simp only at h
  split at h
  · split at h
    · split at h
      · cases h
      · rename_i k σ3 hb
        cases h
        have n2 := nm_bind hp hr hn hs hb
        have n3 := nm_eq (σ2 := e3_up σ3 54 p k) n2.1 (by simp (disch := omega) only [e3_up_self, e3_up_ne]) (by funext x; simp (disch := omega) only [e3_up_self, e3_up_ne]) (by funext x; simp (disch := omega) only [e3_up_self, e3_up_ne])
        exact ⟨n3.1, np_tr n2.2 n3.2⟩
    · cases h
  · cases h
    exact nm_eq hn rfl rfl rfl
theorem nm_into {σ : e3_H} {into last q : Int} (hn : nm_inv r m σ) : nm_inv r m (a_into σ into last q) ∧ nm_post r σ (a_into σ into last q) := nm_eq hn (a_into_at 40 31 (by omega) (by omega) (by omega)) (funext fun x => a_into_at 56 x (by omega) (by omega) (by omega)) (funext fun x => a_into_at 58 x (by omega) (by omega) (by omega))
end NM
