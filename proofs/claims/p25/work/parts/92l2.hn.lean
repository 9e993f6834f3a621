/-- c is the greater of a and b -/
def MX (a b c : Int) : Prop := (c = a ∨ c = b) ∧ a ≤ c ∧ b ≤ c
def mx2 (a b : Nat) : Nat := if a ≤ b then b else a
theorem mx2_s (a b : Nat) : (mx2 a b = a ∨ mx2 a b = b) ∧ a ≤ mx2 a b ∧ b ≤ mx2 a b := by
  unfold mx2
  split
  · rename_i h; exact ⟨Or.inr rfl, h, Nat.le_refl _⟩
  · rename_i h; exact ⟨Or.inl rfl, Nat.le_refl _, by omega⟩
/-- how deep nodes hang, by their sizes -/
def htf : Nat → List a_ND → Nat
  | 0, _ => 0
  | _ + 1, [] => 0
  | k + 1, d :: N => mx2 (1 + htf k (N.take (d.2.2.2.2.2.toNat - 1))) (htf k (N.drop (d.2.2.2.2.2.toNat - 1)))
def hN (N : List a_ND) : Nat := htf N.length N
theorem htf_nil (k : Nat) : htf k [] = 0 := by cases k <;> rfl
theorem htf_ge : ∀ (k j : Nat) (N : List a_ND), N.length ≤ k → N.length ≤ j → htf k N = htf j N := by
  intro k
  induction k with
  | zero =>
    intro j N h1 h2
    cases N with
    | nil => rw [htf_nil, htf_nil]
    | cons d N => exact absurd h1 (by rw [List.length_cons]; omega)
  | succ k ih =>
    intro j N h1 h2
    cases N with
    | nil => rw [htf_nil, htf_nil]
    | cons d N =>
      rw [List.length_cons] at h1 h2
      cases j with
      | zero => omega
      | succ j =>
        have a1 : ∀ x : Nat, (N.take x).length ≤ N.length := fun x => by rw [List.length_take]; exact Nat.min_le_right _ _
        have a2 : ∀ x : Nat, (N.drop x).length ≤ N.length := fun x => by rw [List.length_drop]; exact Nat.sub_le _ _
        show mx2 (1 + htf k (N.take (d.2.2.2.2.2.toNat - 1))) (htf k (N.drop (d.2.2.2.2.2.toNat - 1))) = mx2 (1 + htf j (N.take (d.2.2.2.2.2.toNat - 1))) (htf j (N.drop (d.2.2.2.2.2.toNat - 1)))
        rw [ih j (N.take _) (Nat.le_trans (a1 _) (by omega)) (Nat.le_trans (a1 _) (by omega)), ih j (N.drop _) (Nat.le_trans (a2 _) (by omega)) (Nat.le_trans (a2 _) (by omega))]
theorem hN_nil : hN [] = 0 := rfl
/-- a tree, and what stands behind it -/
theorem hN_app {d : a_ND} {A B : List a_ND} (h : d.2.2.2.2.2 = 1 + (A.length : Int)) : hN (d :: (A ++ B)) = mx2 (1 + hN A) (hN B) := by
  have e : d.2.2.2.2.2.toNat - 1 = A.length := by omega
  show mx2 (1 + htf (A ++ B).length ((A ++ B).take (d.2.2.2.2.2.toNat - 1))) (htf (A ++ B).length ((A ++ B).drop (d.2.2.2.2.2.toNat - 1))) = _
  rw [e, List.take_left, List.drop_left, htf_ge _ A.length A (by rw [List.length_append]; omega) (Nat.le_refl _), htf_ge _ B.length B (by rw [List.length_append]; omega) (Nat.le_refl _)]
  rfl
theorem hN_c {d : a_ND} {A : List a_ND} (h : d.2.2.2.2.2 = 1 + (A.length : Int)) : hN (d :: A) = 1 + hN A := by
  have := hN_app (B := []) h
  rw [List.append_nil, hN_nil] at this
  rw [this]
  unfold mx2
  rw [if_neg (by omega)]
/-- the first node of a tree has its size -/
theorem gr_sz {σ : e3_H} {m : Nat} {R : a_RW} {way : Int} {k : Nat} {π : a_PT} {N : List a_ND} (h : gr σ m R way k π N) : ∃ (d : a_ND) (N1 : List a_ND), N = d :: N1 ∧ d.2.2.2.2.2 = 1 + (N1.length : Int) := by
  cases k with
  | zero => exact h.elim
  | succ k =>
    unfold gr at h
    split at h
    · exact ⟨_, [], h, rfl⟩
    · split at h
      · rcases h with ⟨_, e⟩ | ⟨_, N1, _, e⟩
        · exact ⟨_, [], e, rfl⟩
        · exact ⟨_, N1, e, rfl⟩
      · obtain ⟨N1, _, e⟩ := h
        exact ⟨_, N1, e, rfl⟩
theorem hN_t {σ : e3_H} {m : Nat} {R : a_RW} {way : Int} {k : Nat} {π : a_PT} {A B : List a_ND} (h : gr σ m R way k π A) : (hN (A ++ B) = hN A ∨ hN (A ++ B) = hN B) ∧ hN A ≤ hN (A ++ B) ∧ hN B ≤ hN (A ++ B) := by
  obtain ⟨d, N1, e, hd⟩ := gr_sz h
  subst e
  rw [List.cons_append, hN_app hd, hN_c hd]
  exact mx2_s _ _
