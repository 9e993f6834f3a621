/-- the columns of a rule so far, with what each notes -/
def cJ (σ : e3_H) (lo : Int) (c : Nat) (r last : Int) (L : List Int) (C : Int → Nat → Bool) : Prop := (c = 0 ∧ L = []) ∨ ∃ L0 : List Int, L = L0 ++ [last] ∧ (∀ x, x ∈ L0 → lo ≤ x ∧ x < last ∧ ∀ w : Nat, C x w = true → nv σ 6 last x w) ∧ (lo ≤ last ∧ last < σ 40 16 ∧ ∀ w : Nat, C last w = true → nv σ 6 (σ 40 16) last w) ∧ ach σ (σ 72 r) (L0 ++ [last]) ∧ c ≠ 0
theorem cJ_lt {σ : e3_H} {lo r last : Int} {c : Nat} {L : List Int} {C : Int → Nat → Bool} (h : cJ σ lo c r last L C) : ∀ x, x ∈ L → lo ≤ x ∧ x < σ 40 16 := by
  intro x hx
  rcases h with ⟨_, y⟩ | ⟨L0, e, l1, ⟨l2, l3, _⟩, _⟩
  · rw [y] at hx; exact absurd hx (List.not_mem_nil)
  · rw [e] at hx
    rcases List.mem_append.mp hx with z | z
    · have := l1 x z
      exact ⟨this.1, by omega⟩
    · rw [List.mem_singleton.mp z]; exact ⟨l2, l3⟩
theorem cJ_col {σ σ3 : e3_H} {r lo last p : Int} {c : Nat} {L : List Int} {C : Int → Nat → Bool} {Cq : Nat → Bool} (h : cJ σ lo c r last L C) (h0 : 0 ≤ lo ∧ lo ≤ σ 40 16) (hp : p = σ 40 16) (hp2 : p < σ3 40 16) (h27 : σ3 40 27 = r) (e72 : σ3 72 = σ 72) (hfr : ∀ a x : Int, 46 ≤ a → a ≤ 55 → x < σ 40 16 → σ3 a x = σ a x) (hw : ∀ w : Nat, Cq w = true → nv σ3 6 (σ3 40 16) p w) (h52 : σ3 52 p = -4) : cJ (a_col1 σ3 c last p) lo (c + 1) r p (L ++ [p]) (fun x w => if x = p then Cq w else C x w) := by
  refine Or.inr ⟨L, rfl, ?_⟩
  rcases h with ⟨l1, l2⟩ | ⟨L0, l0, l1, ⟨l2, l3, l4⟩, l5, l6⟩
  · have u : ∀ a x : Int, a ≠ 72 → a ≠ 74 → a_col1 σ3 c last p a x = σ3 a x := fun a x h1 h2 => by
      unfold a_col1 a_mulr
      rw [if_pos l1, e3_up_ne (ne_1 h2), e3_up_ne (ne_1 h1)]
    have u72 : a_col1 σ3 c last p 72 r = p := by
      unfold a_col1 a_mulr
      rw [if_pos l1, e3_up_ne (ne_1 (by decide)), h27, e3_up_self]
    subst l2
    refine ⟨fun x hx => absurd hx (List.not_mem_nil), ⟨by omega, by rw [u 40 16 (by decide) (by decide)]; exact hp2, fun w hcw => ?_⟩, ?_, by omega⟩
    · have hcw : (if p = p then Cq w else C p w) = true := hcw
      rw [if_pos rfl] at hcw
      rw [u 40 16 (by decide) (by decide)]
      exact nv_keep 6 _ p (hw w hcw) hp2 (fun a x ha _ _ => u a x (by omega) (by omega)) (fun x _ _ z => by rw [u 54 x (by decide) (by decide)]; exact z) (fun x _ _ => u 52 x (by decide) (by decide))
    · show a_col1 σ3 c last p 72 r = p ∧ a_col1 σ3 c last p 52 p = -4
      rw [u 52 p (by decide) (by decide)]
      exact ⟨u72, h52⟩
  · have k1 : ∀ a x : Int, a ≠ 52 → a ≠ 74 → a_col1 σ3 c last p a x = σ3 a x := fun a x h1 h2 => by
      unfold a_col1 a_mulr
      rw [if_neg l6, e3_up_ne (ne_1 h2), e3_up_ne (ne_1 h1)]
    have k2 : ∀ x : Int, x ≠ last → a_col1 σ3 c last p 52 x = σ3 52 x := fun x hx => by
      unfold a_col1 a_mulr
      rw [if_neg l6, e3_up_ne (ne_1 (by decide)), e3_up_ne (fun z => hx z.2)]
    have k3 : a_col1 σ3 c last p 52 last = p := by
      unfold a_col1 a_mulr
      rw [if_neg l6, e3_up_ne (ne_1 (by decide)), e3_up_self]
    have e16 := k1 40 16 (by decide) (by decide)
    subst l0
    refine ⟨fun x hx => ?_, ⟨by omega, by rw [e16]; exact hp2, fun w hcw => ?_⟩, ?_, by omega⟩
    · have hx' : (lo ≤ x ∧ x < p ∧ x ≤ last) ∧ ∃ hi, (hi = last ∧ x < last ∨ hi = p ∧ x = last) ∧ ∀ w : Nat, C x w = true → nv σ 6 hi x w := by
        rcases List.mem_append.mp hx with hm | hm
        · obtain ⟨m1, m2, m3⟩ := l1 x hm
          exact ⟨⟨m1, by omega, by omega⟩, last, Or.inl ⟨rfl, m2⟩, m3⟩
        · have hm := List.mem_singleton.mp hm
          rw [hm]
          exact ⟨⟨l2, by omega, by omega⟩, p, Or.inr ⟨rfl, rfl⟩, by rw [hp]; exact l4⟩
      obtain ⟨⟨d1, d2, d3⟩, hi, d4, d5⟩ := hx'
      refine ⟨d1, d2, fun w hcw => ?_⟩
      have hcw : (if x = p then Cq w else C x w) = true := hcw
      rw [if_neg (by omega)] at hcw
      refine nv_mono 6 hi p x (nv_keep 6 hi x (d5 w hcw) (by omega) (fun a y ha hy hy2 => ?_) (fun y hy hy2 z => ?_) (fun y hy hy2 => ?_)) (by omega)
      · rw [k1 a y (by omega) (by omega)]
        exact hfr a y (by omega) (by omega) (by omega)
      · rw [k1 54 y (by decide) (by decide), hfr 54 y (by decide) (by decide) (by omega)]
        exact z
      · rw [k2 y (by omega)]
        exact hfr 52 y (by decide) (by decide) (by omega)
    · have hcw : (if p = p then Cq w else C p w) = true := hcw
      rw [if_pos rfl] at hcw
      rw [e16]
      exact nv_keep 6 _ p (hw w hcw) hp2 (fun a x ha _ _ => k1 a x (by omega) (by omega)) (fun x _ _ z => by rw [k1 54 x (by decide) (by decide)]; exact z) (fun x hx _ => k2 x (by omega))
    · rw [k1 72 r (by decide) (by decide), e72]
      refine ach_snoc L0 _ l5 (fun y hy => ?_) k3 ?_
      · have := (l1 y hy).2.1
        rw [k2 y (by omega)]
        exact hfr 52 y (by decide) (by decide) (by omega)
      · rw [k2 p (by omega)]
        exact h52
/-- NAMES of a rule: each is noted on every way, with its SORT -/
def NNr (σ : e3_H) (r : Int) (cols : Nat) : Prop := ∃ lo hi : Int, (0 ≤ lo ∧ hi ≤ σ 40 16) ∧ wru σ r lo hi cols ∧ (∀ a x : Int, a = 53 ∨ a = 54 → lo ≤ x → x < hi → 0 ≤ σ a x → ∃ w : Nat, w < 8 ∧ σ a x = (w : Int) ∧ (w : Int) < σ 56 r ∧ σ 58 (8 * r + w) = σ 47 x) ∧ ∃ L, ach σ (σ 72 r) L ∧ (∀ c, c ∈ L → lo ≤ c ∧ c < hi) ∧ (∀ w : Nat, (w : Int) < σ 56 r → ∃ c, c ∈ L ∧ nv σ 6 hi c w) ∧ ∀ c, c ∈ L → ∃ ec : Int, ec ≤ hi ∧ sn σ 6 c ec
theorem NNr_keep {σ σ2 : e3_H} {r : Int} {cols : Nat} (h : NNr σ r cols) (h16 : σ 40 16 ≤ σ2 40 16) (e : ∀ a x : Int, 46 ≤ a → a ≤ 55 → x < σ 40 16 → σ2 a x = σ a x) (ek : e_k σ σ2) (e69 : ∀ i : Nat, i < cols → σ2 69 (3 * (r / 16) + i) = σ 69 (3 * (r / 16) + i)) (e72 : σ2 72 r = σ 72 r) (e74 : σ2 74 r = σ 74 r) (e56 : σ2 56 r = σ 56 r) (e58 : ∀ w : Nat, w < 8 → σ2 58 (8 * r + w) = σ 58 (8 * r + w)) : NNr σ2 r cols := by
  obtain ⟨lo, hi, ⟨h0, h1⟩, hW, hN, L, l1, l2, l3, l4⟩ := h
  refine ⟨lo, hi, ⟨h0, by omega⟩, wru_keep hW (fun a x ha _ hx => e a x (by omega) (by omega) (by omega)) ek e69 e72 e74 (Int.le_refl _), fun a x ha x0 x1 z => ?_, L, ?_, l2, fun w hw => ?_, fun c hc => ?_⟩
  · rw [e a x (by omega) (by omega) (by omega)] at z ⊢
    obtain ⟨w, w1, w2, w3, w4⟩ := hN a x ha x0 x1 z
    exact ⟨w, w1, w2, by rw [e56]; exact w3, by rw [e58 w w1, e 47 x (by decide) (by decide) (by omega)]; exact w4⟩
  · rw [e72]
    exact ach_keep L _ l1 (fun c hc => e 52 c (by decide) (by decide) (by have := l2 c hc; omega))
  · rw [e56] at hw
    obtain ⟨c, c1, c2⟩ := l3 w hw
    refine ⟨c, c1, nv_keep 6 hi c c2 (l2 c c1).2 (fun a x ha _ hx => e a x (by omega) (by omega) (by omega)) (fun x _ hx z => by rw [e 54 x (by decide) (by decide) (by omega)]; exact z) (fun x _ hx => e 52 x (by decide) (by decide) (by omega))⟩
  · obtain ⟨ec, u1, u2⟩ := l4 c hc
    exact ⟨ec, u1, sn_keep 6 c ec u2 (fun a x ha _ hx => e a x (by omega) (by omega) (by omega)) (fun a x ha _ hx => e a x (by omega) (by omega) (by omega))⟩
/-- the columns so far, each with where it ends -/
def cS (σ : e3_H) (last : Int) (L : List Int) : Prop := ∀ x, x ∈ L → ∃ ec : Int, ec ≤ σ 40 16 ∧ sn σ 6 x ec ∧ (x = last ∨ ec ≤ last)
theorem cS_col {σ σ3 : e3_H} {r lo last p : Int} {c : Nat} {L : List Int} {C : Int → Nat → Bool} (h : cS σ last L) (hJ : cJ σ lo c r last L C) (hp : p = σ 40 16) (hp2 : p < σ3 40 16) (hfr : ∀ a x : Int, 46 ≤ a → a ≤ 55 → x < σ 40 16 → σ3 a x = σ a x) (hw : sn σ3 6 p (σ3 40 16)) : cS (a_col1 σ3 c last p) p (L ++ [p]) := by
  have q : ∀ a k : Int, a ≠ 52 → a ≠ 72 → a ≠ 74 → a_col1 σ3 c last p a k = σ3 a k := by
    intro a k y1 y2 y3
    unfold a_col1 a_mulr
    rw [e3_up_ne (by omega)]
    split <;> rw [e3_up_ne (by omega)]
  have q52 : ∀ x : Int, (c = 0 ∨ x ≠ last) → a_col1 σ3 c last p 52 x = σ3 52 x := by
    intro x hx
    unfold a_col1 a_mulr
    rw [e3_up_ne (ne_1 (by decide))]
    split
    · rw [e3_up_ne (ne_1 (by decide))]
    · rename_i z
      rw [e3_up_ne (fun y => by rcases hx with t | t; exact z t; exact t y.2)]
  have e16 := q 40 16 (by decide) (by decide) (by decide)
  have hl : c = 0 ∨ last < σ 40 16 := by
    rcases hJ with ⟨y, _⟩ | ⟨_, _, _, ⟨_, y, _⟩, _⟩
    · exact Or.inl y
    · exact Or.inr y
  have hL : c = 0 → L = [] := fun z => by
    rcases hJ with ⟨_, y⟩ | ⟨_, _, _, _, _, y⟩
    · exact y
    · exact absurd z y
  intro x hx
  rcases List.mem_append.mp hx with z | z
  · have c0 : c ≠ 0 := fun y => by rw [hL y] at z; exact absurd z (List.not_mem_nil)
    obtain ⟨ec, u2, u3, u4⟩ := h x z
    have hlt := sn_lt u3
    refine ⟨ec, by rw [e16]; omega, sn_keep 6 x ec u3 (fun a y ha y0 y1 => ?_) (fun a y ha y0 y1 => ?_), Or.inr (by omega)⟩
    · rw [q a y (by omega) (by omega) (by omega)]; exact hfr a y (by omega) (by omega) (by omega)
    · rcases ha with t | t | t
      · rw [t, q52 y (Or.inr (by omega))]; exact hfr 52 y (by decide) (by decide) (by omega)
      · rw [t, q 53 y (by decide) (by decide) (by decide)]; exact hfr 53 y (by decide) (by decide) (by omega)
      · rw [t, q 54 y (by decide) (by decide) (by decide)]; exact hfr 54 y (by decide) (by decide) (by omega)
  · rw [List.mem_singleton.mp z]
    refine ⟨σ3 40 16, by rw [e16]; exact Int.le_refl _, sn_keep 6 p _ hw (fun a y ha y0 y1 => q a y (by omega) (by omega) (by omega)) (fun a y ha y0 y1 => ?_), Or.inl rfl⟩
    rcases ha with t | t | t
    · rw [t]; exact q52 y (by rcases hl with w | w; exact Or.inl w; exact Or.inr (by omega))
    · rw [t]; exact q 53 y (by decide) (by decide) (by decide)
    · rw [t]; exact q 54 y (by decide) (by decide) (by decide)
