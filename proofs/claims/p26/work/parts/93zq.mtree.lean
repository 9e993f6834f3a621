/-- a place's code is made of figures that are there -/
def zPL (m : Int) : Nat → Int → Prop
  | 0, _ => False
  | k + 1, x => (1 ≤ x ∧ x ≤ m) ∨ (8 ≤ x ∧ (1 ≤ x % 8 ∧ x % 8 ≤ 4) ∧ zPL m k (x / 8))
section ZPL
variable {σ : e3_H} {m : Nat} {R : a_RW}
theorem kn_mem {x : Int} : ∀ π : a_PT, kn π x ≠ none → ∃ e, e ∈ π ∧ e.1 = x := by
  intro π
  induction π with
  | nil => intro h; exact absurd rfl h
  | cons e π ih =>
    intro h
    unfold kn at h
    split at h
    · rename_i z; exact ⟨e, List.mem_cons_self .., z⟩
    · obtain ⟨e', a, b⟩ := ih h; exact ⟨e', List.mem_cons_of_mem _ a, b⟩
theorem SP_tst : ∀ π : a_PT, SP σ m R π → ∀ e, e ∈ π → e.1 = 0 ∨ ∃ w q, w ∈ R ∧ (q, e.1) ∈ w.2 := by
  intro π
  induction π with
  | nil => intro _ e he; exact absurd he (List.not_mem_nil)
  | cons d π ih =>
    intro h e he
    obtain ⟨h1, h2⟩ := h
    rcases List.mem_cons.mp he with z | z
    · subst z
      rcases h2 with y | ⟨_, _, s, _, _, _, w0, q0, a, _, b⟩
      · exact Or.inl y.1
      · exact Or.inr ⟨w0, q0, a, b⟩
    · exact ih h1 e z
theorem zPL_kn {mm : Int} (h8 : ∀ w, w ∈ R → ∀ p, p ∈ w.2 → (p.2 - 1) % 8 < 4) (h3 : ∀ w, w ∈ R → ∀ p, p ∈ w.2 → (p.2 - 1) / 8 = 0 → p.2 ≤ mm) {π : a_PT} (hS : SP σ m R π) : ∀ (k : Nat) (y : Int), 1 ≤ y → y < 3 * 8 ^ k → kn π y ≠ none → zPL mm (k + 1) y := by
  intro k
  induction k with
  | zero =>
    intro y y1 yk hk
    rw [Int.pow_zero] at yk
    obtain ⟨e, e1, e2⟩ := kn_mem π hk
    rcases SP_tst π hS e e1 with z | ⟨w, q, c1, c2⟩
    · omega
    · have := h3 w c1 (q, e.1) c2 (by show (e.1 - 1) / 8 = 0; omega)
      have : e.1 ≤ mm := this
      exact Or.inl ⟨y1, by omega⟩
  | succ k ih =>
    intro y y1 yk hk
    obtain ⟨v, hv⟩ : ∃ v, kn π y = some v := by
      cases hz : kn π y with
      | none => exact absurd hz hk
      | some v => exact ⟨v, rfl⟩
    obtain ⟨a, b⟩ := kn_up h8 π y v hS y1 hv
    rcases b with b | b
    · obtain ⟨e, e1, e2⟩ := kn_mem π hk
      rcases SP_tst π hS e e1 with z | ⟨w, q, c1, c2⟩
      · omega
      · have := h3 w c1 (q, e.1) c2 (by show (e.1 - 1) / 8 = 0; rw [e2]; exact b)
        have : e.1 ≤ mm := this
        exact Or.inl ⟨y1, by omega⟩
    · have e8 : (y - 1) / 8 = y / 8 := by omega
      by_cases z : y < 8
      · obtain ⟨e', e1', e2'⟩ := kn_mem π hk
        rcases SP_tst π hS e' e1' with z | ⟨w, q, c1, c2⟩
        · omega
        · have h5 := h3 w c1 (q, e'.1) c2 (by show (e'.1 - 1) / 8 = 0; omega)
          have h5 : e'.1 ≤ mm := h5
          exact Or.inl ⟨y1, by omega⟩
      · refine Or.inr ⟨by omega, by omega, ?_⟩
        rw [← e8]
        refine ih _ (by omega) ?_ b
        have p : (3 : Int) * 8 ^ (k + 1) = 8 * (3 * 8 ^ k) := by rw [Int.pow_succ]; omega
        omega
end ZPL
