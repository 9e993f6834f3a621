/-- nodes under a node, in their order -/
def cld (b par : Int) : List (a_PT × Int) → Nat → List Int
  | [], _ => []
  | d :: D, j => (if d.2 = par then [b + (j : Int)] else []) ++ cld b par D (j + 1)
def mch (K : e3_H) : Int → List Int → Prop
  | a, [] => a = -4
  | a, c :: l => a = c ∧ mch K (K 110 c) l
theorem cld_snoc {b par : Int} {d : a_PT × Int} : ∀ (D : List (a_PT × Int)) (j : Nat), cld b par (D ++ [d]) j = cld b par D j ++ (if d.2 = par then [b + ((j + D.length : Nat) : Int)] else []) := by
  intro D
  induction D with
  | nil => intro j; show _ ++ [] = _; rw [List.append_nil]; rfl
  | cons a D ih =>
    intro j
    show _ ++ cld b par (D ++ [d]) (j + 1) = (_ ++ cld b par D (j + 1)) ++ _
    rw [ih, List.append_assoc, List.length_cons, show j + 1 + D.length = j + (D.length + 1) by omega]
theorem cld_mem {b par c : Int} : ∀ (D : List (a_PT × Int)) (j : Nat), c ∈ cld b par D j → ∃ (i : Nat) (d : a_PT × Int), D[i]? = some d ∧ d.2 = par ∧ c = b + ((j + i : Nat) : Int) := by
  intro D
  induction D with
  | nil => intro j h; exact absurd h (List.not_mem_nil)
  | cons a D ih =>
    intro j h
    rcases List.mem_append.mp h with z | z
    · split at z
      · rename_i hz
        exact ⟨0, a, rfl, hz, List.mem_singleton.mp z⟩
      · exact absurd z (List.not_mem_nil)
    · obtain ⟨i, d, h1, h2, h3⟩ := ih (j + 1) z
      exact ⟨i + 1, d, h1, h2, by rw [h3, show j + 1 + i = j + (i + 1) by omega]⟩
theorem cld_srt {b par : Int} : ∀ (D : List (a_PT × Int)) (j : Nat), (cld b par D j).Pairwise (· < ·) := by
  intro D
  induction D with
  | nil => intro j; exact List.Pairwise.nil
  | cons a D ih =>
    intro j
    refine List.pairwise_append.mpr ⟨?_, ih (j + 1), fun x hx y hy => ?_⟩
    · split
      · exact List.pairwise_singleton _ _
      · exact List.Pairwise.nil
    · obtain ⟨i, d, _, _, h3⟩ := cld_mem D (j + 1) hy
      split at hx
      · rw [List.mem_singleton.mp hx]
        omega
      · exact absurd hx (List.not_mem_nil)
theorem mch_eq {K K2 : e3_H} : ∀ (l : List Int) (a : Int), (∀ c, c ∈ l → K2 110 c = K 110 c) → mch K a l → mch K2 a l := by
  intro l
  induction l with
  | nil => intro a _ h; exact h
  | cons c l ih =>
    intro a h h2
    refine ⟨h2.1, ?_⟩
    rw [h c (List.mem_cons_self ..)]
    exact ih _ (fun y hy => h y (List.mem_cons_of_mem _ hy)) h2.2
theorem mch_add {K K2 : e3_H} {z c : Int} (h1 : K2 110 z = c) (h2 : K2 110 c = -4) : ∀ (l : List Int) (a : Int), (∀ y, y ∈ l → K2 110 y = K 110 y) → mch K a (l ++ [z]) → mch K2 a ((l ++ [z]) ++ [c]) := by
  intro l
  induction l with
  | nil => intro a _ h; exact ⟨h.1, h1, h2⟩
  | cons y l ih =>
    intro a h h3
    refine ⟨h3.1, ?_⟩
    rw [h y (List.mem_cons_self ..)]
    exact ih _ (fun y hy => h y (List.mem_cons_of_mem _ hy)) h3.2
/-- nodes lead to those under them -/
def CHN (b : Int) (D : List (a_PT × Int)) (K : e3_H) : Prop := ∀ n : Nat, n < D.length → mch K (K 108 (b + n)) (cld b (b + n) D 0) ∧ ∀ (l : List Int) (z : Int), cld b (b + n) D 0 = l ++ [z] → K 109 (b + n) = z
theorem snoc_of {l : List Int} (h : l ≠ []) : ∃ l' z, l = l' ++ [z] := ⟨l.dropLast, l.getLast h, (List.dropLast_concat_getLast h).symm⟩
theorem CHN_eq {b : Int} {D : List (a_PT × Int)} {K K2 : e3_H} (h : CHN b D K) (he : ∀ a k : Int, 108 ≤ a → a ≤ 110 → K2 a k = K a k) : CHN b D K2 := fun n hn => by
  obtain ⟨h1, h2⟩ := h n hn
  refine ⟨?_, fun l z hz => by rw [he _ _ (by decide) (by decide)]; exact h2 l z hz⟩
  rw [he _ _ (by decide) (by decide)]
  exact mch_eq _ _ (fun c _ => he 110 c (by decide) (by decide)) h1
theorem CHN_new {b par : Int} {D : List (a_PT × Int)} {π : a_PT} {K K3 : e3_H} (hb : 0 ≤ b) (hN : ∀ (j : Nat) (d : a_PT × Int), D[j]? = some d → d.2 = -4 ∨ ∃ i : Nat, i < j ∧ d.2 = b + i) (hpar : par = -4 ∨ ∃ i : Nat, i < D.length ∧ par = b + i) (hC : CHN b D K)
    (h108 : ∀ k, k ≠ b + (D.length : Int) → k ≠ par → K3 108 k = K 108 k) (h109 : ∀ k, k ≠ b + (D.length : Int) → k ≠ par → K3 109 k = K 109 k) (h110 : ∀ k, k ≠ b + (D.length : Int) → (cld b par D 0 = [] ∨ par = -4 ∨ k ≠ K 109 par) → K3 110 k = K 110 k) (n108 : K3 108 (b + (D.length : Int)) = -4) (n110 : K3 110 (b + (D.length : Int)) = -4)
    (hp : par ≠ -4 → K3 109 par = b + (D.length : Int) ∧ (cld b par D 0 = [] → K3 108 par = b + (D.length : Int)) ∧ (cld b par D 0 ≠ [] → K3 108 par = K 108 par ∧ K3 110 (K 109 par) = b + (D.length : Int))) : CHN b (D ++ [(π, par)]) K3 := by
  intro n hn
  rw [List.length_append] at hn
  have hn : n < D.length + 1 := hn
  by_cases hnJ : n = D.length
  · subst hnJ
    have h0 : cld b (b + (D.length : Int)) (D ++ [(π, par)]) 0 = [] := by
      cases hz : cld b (b + (D.length : Int)) (D ++ [(π, par)]) 0 with
      | nil => rfl
      | cons c l =>
        exfalso
        obtain ⟨i, d, h1, h2, _⟩ := cld_mem (c := c) (D ++ [(π, par)]) 0 (by rw [hz]; exact List.mem_cons_self ..)
        by_cases hi : i < D.length
        · rw [List.getElem?_append_left hi] at h1
          rcases hN i d h1 with y | ⟨i', y1, y2⟩ <;> omega
        · rw [List.getElem?_append_right (by omega)] at h1
          have h3 : i - D.length < 1 := (List.getElem?_eq_some_iff.mp h1).1
          rw [show i - D.length = 0 by omega] at h1
          have h1 : some (π, par) = some d := h1
          cases h1
          have h2 : par = b + (D.length : Int) := h2
          rcases hpar with y | ⟨i', y1, y2⟩ <;> omega
    rw [h0]
    refine ⟨n108, fun l z hz => ?_⟩
    have := congrArg List.length hz
    rw [List.length_append] at this
    have e0 : ([] : List Int).length = 0 := rfl
    have e1 : [z].length = 1 := rfl
    omega
  · have hnD : n < D.length := by omega
    obtain ⟨c1, c2⟩ := hC n hnD
    rw [cld_snoc]
    show mch K3 (K3 108 (b + n)) (cld b (b + n) D 0 ++ (if par = b + n then [b + ((0 + D.length : Nat) : Int)] else [])) ∧ ∀ l z, cld b (b + n) D 0 ++ (if par = b + n then [b + ((0 + D.length : Nat) : Int)] else []) = l ++ [z] → K3 109 (b + n) = z
    rw [Nat.zero_add]
    have memD : ∀ (p c : Int), c ∈ cld b p D 0 → ∃ (i : Nat) (d : a_PT × Int), D[i]? = some d ∧ d.2 = p ∧ c = b + (i : Int) ∧ i < D.length := fun p c hc => by
      obtain ⟨i, d, h1, h2, h3⟩ := cld_mem D 0 hc
      exact ⟨i, d, h1, h2, by rw [h3, Nat.zero_add], (List.getElem?_eq_some_iff.mp h1).1⟩
    by_cases hpn : par = b + n
    · rw [if_pos hpn]
      obtain ⟨p1, p2, p3⟩ := hp (by omega)
      rw [hpn] at p1 p2 p3 h110
      refine ⟨?_, fun l z hz => ?_⟩
      · by_cases hl : cld b (b + n) D 0 = []
        · rw [p2 hl, hl]
          exact ⟨rfl, n110⟩
        · obtain ⟨l', z, hlz⟩ := snoc_of hl
          obtain ⟨p4, p5⟩ := p3 hl
          have hz := c2 l' z hlz
          rw [p4]
          rw [hz] at p5 h110
          rw [hlz] at c1 ⊢
          refine mch_add p5 n110 l' _ (fun y hy => h110 y ?_ (Or.inr (Or.inr ?_))) c1
          · obtain ⟨i, d, h1, h2, h3, h4⟩ := memD (b + n) y (by rw [hlz]; exact List.mem_append_left _ hy)
            omega
          · have hs := cld_srt (b := b) (par := b + n) D 0
            rw [hlz] at hs
            have := (List.pairwise_append.mp hs).2.2 y hy z (List.mem_singleton.mpr rfl)
            omega
      · have := (List.append_inj' hz rfl).2
        have this : b + (D.length : Int) = z := (List.cons.inj this).1
        rw [p1]
        exact this
    · rw [if_neg hpn, List.append_nil, h108 _ (by omega) (fun z => hpn z.symm), h109 _ (by omega) (fun z => hpn z.symm)]
      refine ⟨mch_eq _ _ (fun c hc => h110 c ?_ ?_) c1, c2⟩
      · obtain ⟨i, d, h1, h2, h3, h4⟩ := memD _ c hc
        omega
      · rcases hpar with y | ⟨i', y1, y2⟩
        · exact Or.inr (Or.inl y)
        · by_cases hl : cld b par D 0 = []
          · exact Or.inl hl
          · refine Or.inr (Or.inr (fun hcz => ?_))
            obtain ⟨l', z, hlz⟩ := snoc_of hl
            rw [y2] at hlz hcz
            have hz := (hC i' y1).2 l' z hlz
            obtain ⟨i, d, h1, h2, h3, h4⟩ := memD _ c hc
            obtain ⟨i2, d2, g1, g2, g3, g4⟩ := memD (b + i') z (by rw [hlz]; exact List.mem_append_right _ (List.mem_singleton.mpr rfl))
            have : i = i2 := by omega
            subst this
            rw [h1] at g1
            cases g1
            omega
