/-- where a visited pattern's SORT comes from -/
def vty (σ : e3_H) (V : List (Int × Int)) (p : Int × Int) : Prop := ∃ p', p' ∈ V ∧ σ 46 p'.1 = 5 ∧ (p.2 - 1) / 8 = p'.2 ∧ σ 47 p.1 = σ 45 (4 * σ 48 p'.1 + (p.2 - 1) % 8) ∧ 0 < σ 44 (σ 48 p'.1)
section TY
variable {σ : e3_H} {hi : Int}
theorem lyC_ty {k : Nat} (hR : ∀ c w x V, lyV σ k c w x V → wt σ k hi c → 0 ≤ c → 0 ≤ x → ∀ p, p ∈ V → (p.2 = x ∧ σ 47 p.1 = σ 47 c) ∨ vty σ V p) : ∀ (L : List Int) (w x : Int) (V : List (Int × Int)), lyC (lyV σ k) σ L w x V → (∀ c, c ∈ L → wt σ k hi c ∧ 0 ≤ c) → 0 ≤ x → ∀ p, p ∈ V → (∃ (i : Nat) (c : Int), L[i]? = some c ∧ p.2 = x + i ∧ σ 47 p.1 = σ 47 c) ∨ vty σ V p := by
  intro L
  induction L with
  | nil => intro w x V h _ _ p hp; have h : V = [] := h; rw [h] at hp; exact absurd hp (List.not_mem_nil)
  | cons d l ih =>
    intro w x V h hw hx p hp
    obtain ⟨V1, V2, e, v1, v2⟩ := h
    rw [e] at hp
    rcases List.mem_append.mp hp with z | z
    · rcases hR d _ x V1 v1 (hw d (List.mem_cons_self ..)).1 (hw d (List.mem_cons_self ..)).2 hx p z with ⟨y1, y2⟩ | ⟨p', y1, y2⟩
      · exact Or.inl ⟨0, d, rfl, by rw [y1]; omega, y2⟩
      · exact Or.inr ⟨p', by rw [e]; exact List.mem_append_left _ y1, y2⟩
    · rcases ih _ (x + 1) V2 v2 (fun c hc => hw c (List.mem_cons_of_mem _ hc)) (by omega) p z with ⟨i, c, y1, y2, y3⟩ | ⟨p', y1, y2⟩
      · exact Or.inl ⟨i + 1, c, y1, by rw [y2]; omega, y3⟩
      · exact Or.inr ⟨p', by rw [e]; exact List.mem_append_right _ y1, y2⟩
theorem lyV_ty : ∀ (k : Nat) (q w x : Int) (V : List (Int × Int)), lyV σ k q w x V → wt σ k hi q → 0 ≤ q → 0 ≤ x → ∀ p, p ∈ V → (p.2 = x ∧ σ 47 p.1 = σ 47 q) ∨ vty σ V p := by
  intro k
  induction k with
  | zero => intro q w x V h; exact h.elim
  | succ k ih =>
    intro q w x V h ht hq hx p hp
    obtain ⟨L, V1, ⟨a1, a2⟩, e, h⟩ := h
    obtain ⟨L2, b1, b2, b3, b4, b5, b6, b7, b8, b9⟩ := ht
    have e1 : ∀ y, y ∈ L2 → y ≠ -4 := fun y hy => by have := (b2 y hy).1; omega
    have hLL : L = L2 := ach_inj L L2 _ a2 e1 a1 b1
    subst hLL
    rw [e] at hp
    rcases List.mem_cons.mp hp with z | z
    · rw [z]; exact Or.inl ⟨rfl, rfl⟩
    · rcases h with ⟨h6, A, c, B, eA, _, _, v⟩ | ⟨h6, h5, hl, _, v⟩
      · have hm : c ∈ L := by rw [eA]; exact List.mem_append_right _ (List.mem_cons_self ..)
        rcases ih c _ x V1 v (b2 c hm).2.2 (by have := (b2 c hm).1; omega) hx p z with ⟨y1, y2⟩ | ⟨p', y1, y2⟩
        · exact Or.inl ⟨y1, by rw [y2]; exact b8.1 h6 c hm⟩
        · exact Or.inr ⟨p', by rw [e]; exact List.mem_cons_of_mem _ y1, y2⟩
      · have hne : L ≠ [] := fun y => by
          rw [y] at v
          have v : V1 = [] := v
          rw [v] at z
          exact absurd z (List.not_mem_nil)
        have h5 := h5 hne
        refine Or.inr ?_
        rcases lyC_ty (k := k) (hi := hi) (fun c w x V v1 v2 v3 v4 => ih c w x V v1 v2 v3 v4) L w (8 * x + 1) V1 v (fun c hc => ⟨(b2 c hc).2.2, by have := (b2 c hc).1; omega⟩) (by omega) p z with ⟨i, c, y1, y2, y3⟩ | ⟨p', y1, y2⟩
        · have hi4 : i < L.length := (List.getElem?_eq_some_iff.mp y1).1
          refine ⟨(q, x), by rw [e]; exact List.mem_cons_self .., h5, by show (p.2 - 1) / 8 = x; omega, ?_, ?_⟩
          · show σ 47 p.1 = σ 45 (4 * σ 48 q + (p.2 - 1) % 8)
            rw [y3, b8.2 h5 i c y1, show (p.2 - 1) % 8 = (i : Int) by omega]
          · show 0 < σ 44 (σ 48 q)
            rw [← b9 h5 hne]
            omega
        · exact ⟨p', by rw [e]; exact List.mem_cons_of_mem _ y1, y2⟩
end TY
/-- a row keeps to SORTS -/
def TYR (σ : e3_H) (f : Int) (T : List (Int × Int)) : Prop := ∀ p, p ∈ T → ((p.2 - 1) / 8 = 0 ∧ σ 47 p.1 = σ 69 (3 * f + (p.2 - 1))) ∨ vty σ T p
theorem TYR_of {σ : e3_H} {hi f r w : Int} {L : List Int} {V : List (Int × Int)} (hL : L.length ≤ 4) (hr : r / 16 = f) (hv : lyC (lyV σ 6) σ L w 1 V) (hw : ∀ c, c ∈ L → wt σ 6 hi c ∧ 0 ≤ c) (hs : ∀ (i : Nat) (x : Int), L[i]? = some x → σ 47 x = σ 69 (3 * (r / 16) + i)) : TYR σ f (tl σ V) := by
  intro p hp
  have hp2 := tl_mem.mp hp
  rcases lyC_ty (k := 6) (hi := hi) (fun c w x V v1 v2 v3 v4 => lyV_ty 6 c w x V v1 v2 v3 v4) L w 1 V hv hw (by omega) p hp2.1 with ⟨i, c, y1, y2, y3⟩ | ⟨p', y1, y2, y3⟩
  · have hi4 : i < L.length := (List.getElem?_eq_some_iff.mp y1).1
    exact Or.inl ⟨by omega, by rw [y3, hs i c y1, hr, show p.2 - 1 = (i : Int) by omega]⟩
  · exact Or.inr ⟨p', tl_mem.mpr ⟨y1, by omega, by omega⟩, y2, y3⟩
/-- no KIND with PARTS has others UNDER it -/
def KP (σ : e3_H) (m : Nat) : Prop := ∀ j : Nat, j < m → σ 43 j = -4 ∨ σ 44 (σ 43 j) = 0
theorem of_part {σ : e3_H} {m : Nat} {k : Int} (hu : a_up (σ 43) m) (hk : KP σ m) (h44 : 0 < σ 44 k) : ∀ (n : Nat) (j : Int), 0 ≤ j → j < m → a_of (σ 43) k n j = true → j = k := by
  intro n
  induction n with
  | zero => intro j _ _ h; cases h
  | succ n ih =>
    intro j j0 j1 h
    unfold a_of at h
    rw [if_neg (by omega)] at h
    split at h
    · assumption
    · have h1 := hu j.toNat (by omega)
      have h2 := hk j.toNat (by omega)
      rw [Int.toNat_of_nonneg j0] at h1 h2
      rcases h1 with z | ⟨z1, z2⟩
      · rw [z] at h
        cases n with
        | zero => cases h
        | succ n => unfold a_of at h; rw [if_pos (by decide)] at h; cases h
      · have := ih (σ 43 j) z1 (by omega) h
        rcases h2 with z | z
        · omega
        · rw [this] at z; omega
