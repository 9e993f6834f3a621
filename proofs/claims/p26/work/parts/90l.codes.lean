/-- the place d above a place -/
def upc : Nat → Int → Int
  | 0, y => y
  | d + 1, y => upc d ((y - 1) / 8)
theorem upc_add : ∀ (d e : Nat) (y : Int), upc (d + e) y = upc e (upc d y) := by
  intro d
  induction d with
  | zero => intro e y; rw [Nat.zero_add]; rfl
  | succ d ih =>
    intro e y
    rw [show d + 1 + e = (d + e) + 1 by omega]
    exact ih e _
theorem upc_le : ∀ (d : Nat) (y : Int), -1 ≤ y → upc d y ≤ y := by
  intro d
  induction d with
  | zero => intro y _; exact Int.le_refl _
  | succ d ih =>
    intro y hy
    have := ih ((y - 1) / 8) (by omega)
    show upc d ((y - 1) / 8) ≤ y
    omega
/-- below different children of one place lie different places -/
theorem upc_sib {x s1 s2 y : Int} {d1 d2 : Nat} (hx : 0 ≤ x) (h1 : 8 * x + 1 ≤ s1 ∧ s1 ≤ 8 * x + 8) (h2 : 8 * x + 1 ≤ s2 ∧ s2 ≤ 8 * x + 8) (e1 : upc d1 y = s1) (e2 : upc d2 y = s2) : s1 = s2 := by
  have half : ∀ (a b : Int) (da db : Nat), da ≤ db → 8 * x + 1 ≤ a → a ≤ 8 * x + 8 → 8 * x + 1 ≤ b → upc da y = a → upc db y = b → a = b := by
    intro a b da db hd ha ha2 hb ea eb
    obtain ⟨e, rfl⟩ : ∃ e, db = da + e := ⟨db - da, by omega⟩
    rw [upc_add, ea] at eb
    cases e with
    | zero => exact eb
    | succ e =>
      have eb : upc e ((a - 1) / 8) = b := eb
      have hq : (a - 1) / 8 = x := by omega
      rw [hq] at eb
      have := upc_le e x (by omega)
      omega
  by_cases hd : d1 ≤ d2
  · exact half s1 s2 d1 d2 hd h1.1 h1.2 h2.1 e1 e2
  · exact (half s2 s1 d2 d1 (by omega) h2.1 h2.2 h1.1 e2 e1).symm
/-- tests of one row lie at different places -/
def PW (σ : e3_H) (V : List (Int × Int)) : Prop := V.Pairwise (fun a b => σ 46 a.1 ≠ 6 → σ 46 b.1 ≠ 6 → a.2 ≠ b.2)
theorem lyC_PW {R : Int → Int → Int → List (Int × Int) → Prop} {σ : e3_H} {x : Int} (hx : 0 ≤ x) (hR : ∀ c w y V, 0 ≤ y → R c w y V → PW σ V ∧ ∀ p, p ∈ V → ∃ d, upc d p.2 = y) : ∀ (L : List Int) (w x0 : Int) (V : List (Int × Int)), 8 * x + 1 ≤ x0 → x0 + L.length ≤ 8 * x + 9 → lyC R σ L w x0 V → PW σ V ∧ ∀ p, p ∈ V → ∃ d s, x0 ≤ s ∧ s < x0 + L.length ∧ upc d p.2 = s := by
  intro L
  induction L with
  | nil =>
    intro w x0 V _ _ h
    have h : V = [] := h
    rw [h]
    exact ⟨List.Pairwise.nil, fun p hp => absurd hp (List.not_mem_nil)⟩
  | cons c l ih =>
    intro w x0 V h1 h2 h
    obtain ⟨V1, V2, e, r1, r2⟩ := h
    rw [List.length_cons] at h2
    obtain ⟨a1, a2⟩ := hR _ _ _ _ (by omega) r1
    obtain ⟨b1, b2⟩ := ih _ (x0 + 1) V2 (by omega) (by omega) r2
    rw [e, List.length_cons]
    refine ⟨List.pairwise_append.mpr ⟨a1, b1, fun p hp q hq _ _ hz => ?_⟩, fun p hp => ?_⟩
    · obtain ⟨d1, u1⟩ := a2 p hp
      obtain ⟨d2, s, s1, s2, u2⟩ := b2 q hq
      rw [hz] at u1
      have := upc_sib hx (s1 := x0) (s2 := s) (by omega) (by omega) u1 u2
      omega
    · rcases List.mem_append.mp hp with hm | hm
      · obtain ⟨d1, u1⟩ := a2 p hm
        exact ⟨d1, x0, by omega, by omega, u1⟩
      · obtain ⟨d2, s, s1, s2, u2⟩ := b2 p hm
        exact ⟨d2, s, by omega, by omega, u2⟩
theorem lyV_PW {σ : e3_H} : ∀ (k : Nat) (q w x : Int) (V : List (Int × Int)), 0 ≤ x → lyV σ k q w x V → PW σ V ∧ ∀ p, p ∈ V → ∃ d, upc d p.2 = x := by
  intro k
  induction k with
  | zero => intro q w x V _ h; exact h.elim
  | succ k ih =>
    intro q w x V hx h
    obtain ⟨L, V1, _, e, h⟩ := h
    rw [e]
    rcases h with ⟨h6, A, c, B, _, _, _, v⟩ | ⟨h6, _, hl, _, v⟩
    · obtain ⟨a1, a2⟩ := ih _ _ _ _ hx v
      refine ⟨List.pairwise_cons.mpr ⟨fun p _ hz => absurd h6 hz, a1⟩, fun p hp => ?_⟩
      rcases List.mem_cons.mp hp with hz | hz
      · exact ⟨0, by rw [hz]; rfl⟩
      · exact a2 p hz
    · obtain ⟨a1, a2⟩ := lyC_PW (R := lyV σ k) hx (fun c w y V hy hr => ih c w y V hy hr) L w (8 * x + 1) V1 (by omega) (by omega) v
      refine ⟨List.pairwise_cons.mpr ⟨fun p hp _ _ hz => ?_, a1⟩, fun p hp => ?_⟩
      · obtain ⟨d, s, s1, s2, u⟩ := a2 p hp
        have hz : x = p.2 := hz
        rw [← hz] at u
        have := upc_le d x (by omega)
        omega
      · rcases List.mem_cons.mp hp with hz | hz
        · exact ⟨0, by rw [hz]; rfl⟩
        · obtain ⟨d, s, s1, s2, u⟩ := a2 p hz
          refine ⟨d + 1, ?_⟩
          rw [upc_add, u]
          show (s - 1) / 8 = x
          omega
/-- a whole rule: its columns are the children of place 0 -/
theorem rule_PW {σ : e3_H} {L : List Int} {w : Int} {V : List (Int × Int)} (hl : L.length ≤ 4) (h : lyC (lyV σ 6) σ L w 1 V) : PW σ V :=
  (lyC_PW (x := 0) (Int.le_refl _) (fun c w y V hy hr => lyV_PW 6 c w y V hy hr) L w 1 V (by omega) (by omega) h).1
/-- so many different numbers below n: at most n -/
theorem pig : ∀ (n : Nat) (l : List Int), (∀ x, x ∈ l → 0 ≤ x ∧ x < n) → l.Pairwise (fun a b => a ≠ b) → l.length ≤ n := by
  intro n
  induction n with
  | zero =>
    intro l h _
    cases l with
    | nil => exact Nat.le_refl _
    | cons x l => have := h x (List.mem_cons_self ..); omega
  | succ n ih =>
    intro l h hp
    have hf := ih (l.filter (fun x => decide (x ≠ (n : Int)))) (fun x hx => by
      obtain ⟨h1, h2⟩ := List.mem_filter.mp hx
      have := h x h1
      have := of_decide_eq_true h2
      omega) (List.Pairwise.sublist List.filter_sublist hp)
    have hc : ∀ l : List Int, l.Pairwise (fun a b => a ≠ b) → l.length ≤ (l.filter (fun x => decide (x ≠ (n : Int)))).length + 1 := by
      intro l
      induction l with
      | nil => intro _; exact Nat.zero_le _
      | cons x l ihl =>
        intro hp
        obtain ⟨p1, p2⟩ := List.pairwise_cons.mp hp
        by_cases hx : x = (n : Int)
        · have e : l.filter (fun x => decide (x ≠ (n : Int))) = l := List.filter_eq_self.mpr (fun y hy => decide_eq_true (fun z => p1 y hy (by rw [hx, z])))
          rw [List.filter_cons_of_neg (by rw [hx]; simp), e, List.length_cons]
          exact Nat.le_refl _
        · rw [List.filter_cons_of_pos (p := fun x => decide (x ≠ (n : Int))) (decide_eq_true hx), List.length_cons, List.length_cons]
          have := ihl p2
          omega
    have := hc l hp
    omega
