/-- the greatest of a list of steps -/
def mxk (f : (Int × Int × Int) × (Int × Int × Int × Int) → Nat) : List ((Int × Int × Int) × (Int × Int × Int × Int)) → Nat
  | [] => 0
  | v :: l => mx2 (f v) (mxk f l)
theorem mxk_ge {f : (Int × Int × Int) × (Int × Int × Int × Int) → Nat} : ∀ (l : List ((Int × Int × Int) × (Int × Int × Int × Int))) (v : (Int × Int × Int) × (Int × Int × Int × Int)), v ∈ l → f v ≤ mxk f l := by
  intro l
  induction l with
  | nil => intro v h; exact absurd h (List.not_mem_nil)
  | cons a l ih =>
    intro v h
    have := mx2_s (f a) (mxk f l)
    show f v ≤ mx2 (f a) (mxk f l)
    rcases List.mem_cons.mp h with z | z
    · rw [z]; exact this.2.1
    · exact Nat.le_trans (ih v z) this.2.2
theorem mxk_at {f : (Int × Int × Int) × (Int × Int × Int × Int) → Nat} : ∀ (l : List ((Int × Int × Int) × (Int × Int × Int × Int))), l ≠ [] → ∃ v, v ∈ l ∧ mxk f l = f v := by
  intro l
  induction l with
  | nil => intro h; exact absurd rfl h
  | cons a l ih =>
    intro _
    have h := mx2_s (f a) (mxk f l)
    have e : mxk f (a :: l) = mx2 (f a) (mxk f l) := rfl
    by_cases hl : l = []
    · subst hl
      refine ⟨a, List.mem_cons_self .., ?_⟩
      have e0 : mxk f [] = 0 := rfl
      rw [e0] at h e
      omega
    · obtain ⟨v, v1, v2⟩ := ih hl
      rcases h.1 with z | z
      · exact ⟨a, List.mem_cons_self .., by rw [e]; exact z⟩
      · exact ⟨v, List.mem_cons_of_mem _ v1, by rw [e, z]; exact v2⟩
/-- how deep the tree of a path is -/
def hgt (σ : e3_H) (m : Nat) (R : a_RW) (way : Int) : Nat → a_PT → Nat
  | 0, _ => 0
  | k + 1, π => 1 + mxk (fun v => hgt σ m R way k (v.1 :: π)) (kds σ m R way π)
def grK (σ : e3_H) (m : Nat) (R : a_RW) (way : Int) (k : Nat) : List a_PT → List a_ND → Prop
  | [], N => N = []
  | π :: P, N => ∃ A B, N = A ++ B ∧ gr σ m R way k π A ∧ grK σ m R way k P B
section DEP
variable {σ : e3_H} {m : Nat} {R : a_RW} {way : Int}
theorem grs_K {k : Nat} {π : a_PT} {x s : Int} : ∀ (l : List (Int × Int)) (N : List a_ND), grs (gr σ m R way k) π x l N → grK σ m R way k ((l.map (fun v => (((x, v.1, v.2), enc s v) : (Int × Int × Int) × (Int × Int × Int × Int)))).map (fun v => v.1 :: π)) N := by
  intro l
  induction l with
  | nil => intro N h; exact h
  | cons e l ih =>
    intro N h
    obtain ⟨A, B, e1, a, b⟩ := h
    exact ⟨A, B, e1, a, ih B b⟩
theorem gr_kdK {k : Nat} {π : a_PT} {N : List a_ND} (h : gr σ m R way (k + 1) π N) : ∃ nd N1, N = nd :: N1 ∧ grK σ m R way k ((kds σ m R way π).map (fun v => v.1 :: π)) N1 := by
  unfold gr at h
  unfold kds
  split at h
  · rename_i hf
    refine ⟨_, [], h, ?_⟩
    rw [hf]
    rfl
  · rename_i i r T hf
    rw [hf]
    simp only
    split at h
    · rename_i hc
      rw [hc]
      simp only
      rcases h with ⟨h1, h⟩ | ⟨h1, N1, h2, h⟩
      · refine ⟨_, [], h, ?_⟩
        rw [if_pos h1]
        rfl
      · refine ⟨_, N1, h, ?_⟩
        rw [if_neg h1]
        exact ⟨N1, [], by rw [List.append_nil], h2, rfl⟩
    · rename_i q x hc
      rw [hc]
      obtain ⟨N1, h1, h⟩ := h
      refine ⟨_, N1, h, ?_⟩
      exact grs_K _ N1 h1
theorem grK_mem {k : Nat} {π : a_PT} : ∀ (l : List ((Int × Int × Int) × (Int × Int × Int × Int))) (N : List a_ND), grK σ m R way k (l.map (fun v => v.1 :: π)) N → ∀ v, v ∈ l → ∃ A, gr σ m R way k (v.1 :: π) A := by
  intro l
  induction l with
  | nil => intro N _ v hv; exact absurd hv (List.not_mem_nil)
  | cons a l ih =>
    intro N h v hv
    obtain ⟨A, B, _, g1, g2⟩ := h
    rcases List.mem_cons.mp hv with z | z
    · rw [z]; exact ⟨A, g1⟩
    · exact ih B g2 v z
theorem hN_K {k : Nat} (ih : ∀ (π : a_PT) (N : List a_ND), gr σ m R way k π N → hN N = hgt σ m R way k π) (π : a_PT) : ∀ (l : List ((Int × Int × Int) × (Int × Int × Int × Int))) (N : List a_ND), grK σ m R way k (l.map (fun v => v.1 :: π)) N → hN N = mxk (fun v => hgt σ m R way k (v.1 :: π)) l := by
  intro l
  induction l with
  | nil => intro N h; have h : N = [] := h; rw [h]; rfl
  | cons v l ih2 =>
    intro N h
    obtain ⟨A, B, e, a, b⟩ := h
    show hN N = mx2 (hgt σ m R way k (v.1 :: π)) (mxk (fun v => hgt σ m R way k (v.1 :: π)) l)
    rw [← ih _ _ a, ← ih2 B b, e]
    obtain ⟨d, N1, e1, hd⟩ := gr_sz a
    rw [e1, List.cons_append, hN_app hd, hN_c hd]
theorem hN_hgt : ∀ (k : Nat) (π : a_PT) (N : List a_ND), gr σ m R way k π N → hN N = hgt σ m R way k π := by
  intro k
  induction k with
  | zero => intro π N h; exact h.elim
  | succ k ih =>
    intro π N h
    obtain ⟨nd, N1, e, g⟩ := gr_kdK h
    obtain ⟨d, N2, e2, hd⟩ := gr_sz h
    rw [e] at e2
    obtain ⟨z1, z2⟩ := List.cons.inj e2
    subst z1
    subst z2
    rw [e, hN_c hd, hN_K ih π _ _ g]
    rfl
theorem dp_le {D : List a_PT} {k0 : Nat} {N : List a_ND} (hg : gr σ m R way k0 [] N) (hP : ∀ (j : Nat) (π : a_PT), D[j]? = some π → π = [] ∨ ∃ (i : Nat) (π' : a_PT) (v : (Int × Int × Int) × (Int × Int × Int × Int)), D[i]? = some π' ∧ v ∈ kds σ m R way π' ∧ π = v.1 :: π') : ∀ (π : a_PT) (j : Nat), D[j]? = some π → ∃ (k : Nat) (A : List a_ND), π.length + k = k0 ∧ gr σ m R way k π A ∧ π.length + hgt σ m R way k π ≤ hgt σ m R way k0 [] := by
  intro π
  induction π with
  | nil => intro j _; exact ⟨k0, N, Nat.zero_add _, hg, by rw [List.length_nil, Nat.zero_add]; exact Nat.le_refl _⟩
  | cons e π ih =>
    intro j hj
    rcases hP j _ hj with h | ⟨i, π', v, h1, h2, h3⟩
    · cases h
    · obtain ⟨e1, e2⟩ := List.cons.inj h3
      subst e1
      subst e2
      obtain ⟨k, A, a1, a2, a3⟩ := ih i h1
      cases k with
      | zero => exact a2.elim
      | succ k =>
        obtain ⟨nd, N1, _, g⟩ := gr_kdK a2
        obtain ⟨A2, g2⟩ := grK_mem _ _ g v h2
        have hge : hgt σ m R way k (v.1 :: π) ≤ mxk (fun v => hgt σ m R way k (v.1 :: π)) (kds σ m R way π) := mxk_ge (f := fun v => hgt σ m R way k (v.1 :: π)) _ v h2
        have e3 : hgt σ m R way (k + 1) π = 1 + mxk (fun v => hgt σ m R way k (v.1 :: π)) (kds σ m R way π) := rfl
        refine ⟨k, A2, by rw [List.length_cons]; omega, g2, ?_⟩
        rw [List.length_cons]
        omega
theorem dp_at {D : List a_PT} (hC : ∀ (j : Nat) (π : a_PT), D[j]? = some π → ∀ v, v ∈ kds σ m R way π → ∃ c : Nat, D[c]? = some (v.1 :: π)) : ∀ (k : Nat) (π : a_PT) (A : List a_ND) (j : Nat), D[j]? = some π → gr σ m R way k π A → ∃ (j' : Nat) (π' : a_PT), D[j']? = some π' ∧ π'.length + 1 = π.length + hgt σ m R way k π := by
  intro k
  induction k with
  | zero => intro π A j _ h; exact h.elim
  | succ k ih =>
    intro π A j hj h
    have e3 : hgt σ m R way (k + 1) π = 1 + mxk (fun v => hgt σ m R way k (v.1 :: π)) (kds σ m R way π) := rfl
    by_cases hk : kds σ m R way π = []
    · rw [hk] at e3
      have e4 : mxk (fun v => hgt σ m R way k (v.1 :: π)) [] = 0 := rfl
      exact ⟨j, π, hj, by omega⟩
    · obtain ⟨v, v1, v2⟩ := mxk_at (f := fun v => hgt σ m R way k (v.1 :: π)) _ hk
      have v2 : mxk (fun v => hgt σ m R way k (v.1 :: π)) (kds σ m R way π) = hgt σ m R way k (v.1 :: π) := v2
      obtain ⟨nd, N1, _, g⟩ := gr_kdK h
      obtain ⟨A2, g2⟩ := grK_mem _ _ g v v1
      obtain ⟨c, hc⟩ := hC j π hj v v1
      obtain ⟨j', π', q1, q2⟩ := ih _ A2 c hc g2
      rw [List.length_cons] at q2
      exact ⟨j', π', q1, by omega⟩
end DEP
/-- a chain of nodes upward -/
def CHp (H : e3_H) : Nat → Int → Prop
  | 0, v => v = -4
  | n + 1, v => v ≠ -4 ∧ (0 ≤ v ∧ v < 3900) ∧ CHp H n (H 107 v)
section DEQ
variable {Q : Int → e3_H → e3_G → Prop} {H : e3_H} {G : e3_G}
theorem nM_d26 {k4 : Int → Int → Int → e3_H → e3_G → Prop} {l1 l2 l3 : Int} : ∀ (n : Nat) (v l4 : Int), CHp H n v → (0 ≤ l4 ∧ l4 + n ≤ 100000) → (∀ x : Int, MX l2 (l4 + n) x → k4 l1 x (e3_w32 (l3 + 1)) H G) → wM_depth_26 Q k4 (n + 1) l1 l2 l3 l4 v H G := by
  intro n
  induction n with
  | zero =>
    intro v l4 hc h4 hk
    have hc : v = -4 := hc
    exact brT hc ⟨fun a => hk l4 ⟨Or.inr (by omega), by omega, by omega⟩, fun a => hk l2 ⟨Or.inl rfl, by omega, by omega⟩⟩
  | succ n ih =>
    intro v l4 hc h4 hk
    obtain ⟨c1, c2, c3⟩ := hc
    refine brF c1 ⟨c2, ?_⟩
    rw [e3_w32_id (x := l4 + 1) (by omega) (by omega)]
    refine ih _ (l4 + 1) c3 (by omega) (fun x hx => hk x ?_)
    rw [show l4 + ((n + 1 : Nat) : Int) = l4 + 1 + (n : Int) by omega]
    exact hx
theorem nM_depth {f n h : Nat} {dep : Nat → Nat} (hf : f < 12) (h99 : H 99 f = (n : Int)) (hn : n ≤ 120) (hd : ∀ j : Nat, j < n → CHp H (dep j) (300 * (f : Int) + j) ∧ dep j ≤ 1000) (hle : ∀ j : Nat, j < n → dep j ≤ h) (hat : ∃ j : Nat, j < n ∧ dep j = h) (hQ : Q (h : Int) H G) : wM_depth Q f H G := by
  have key : ∀ (d j : Nat) (l2 : Int), j + d = n → 0 ≤ l2 → (∀ i : Nat, i < j → (dep i : Int) ≤ l2) → (l2 = 0 ∨ ∃ i : Nat, i < n ∧ l2 = (dep i : Int)) → wM_depth_4 Q (d + 1) f l2 j H G := by
    intro d
    induction d with
    | zero =>
      intro j l2 hj h0 h1 h2
      refine ⟨by omega, brF (by rw [h99]; omega) ?_⟩
      obtain ⟨j0, a1, a2⟩ := hat
      have b1 := h1 j0 (by omega)
      have e : l2 = (h : Int) := by
        rcases h2 with z | ⟨i, i1, i2⟩
        · omega
        · have := hle i i1
          omega
      rw [e]
      exact hQ
    | succ d ih =>
      intro j l2 hj h0 h1 h2
      have hjn : j < n := by omega
      obtain ⟨c1, c2⟩ := hd j hjn
      refine ⟨by omega, brT (by rw [h99]; omega) ⟨dep j + 1, ?_⟩⟩
      rw [e3_w32_id (x := 300 * (f : Int)) (by omega) (by omega), e3_w32_id (x := 300 * (f : Int) + j) (by omega) (by omega)]
      refine nM_d26 (dep j) _ 0 c1 (by omega) (fun x hx => ?_)
      rw [e3_w32_id (x := (j : Int) + 1) (by omega) (by omega), show (j : Int) + 1 = ((j + 1 : Nat) : Int) by omega]
      obtain ⟨x1, x2, x3⟩ := hx
      refine ih (j + 1) x (by omega) (by omega) (fun i hi => ?_) ?_
      · by_cases hz : i = j
        · rw [hz]; omega
        · have := h1 i (by omega)
          omega
      · rcases x1 with z | z
        · rw [z]; exact h2
        · exact Or.inr ⟨j, hjn, by omega⟩
  exact ⟨n + 1, key n 0 0 (by omega) (by omega) (fun i hi => absurd hi (Nat.not_lt_zero _)) (Or.inl rfl)⟩
/-- the depth of a tree of the reference -/
theorem nM_dep {σ : e3_H} {m f : Nat} {R : a_RW} {way : Int} {N : List a_ND} (hf : f < 12) (h99 : H 99 f = (N.length : Int)) (hn : N.length ≤ 120) (hT : TRP σ m R way (300 * (f : Int)) N H) (hQ : Q (hN N : Int) H G) : wM_depth Q f H G := by
  obtain ⟨D, d1, ⟨k0, d0⟩, d2, d3⟩ := hT
  have hl := gr_len _ _ _ d0
  have eh := hN_hgt _ _ _ d0
  have hdep : ∀ j : Nat, j < N.length → ∃ π, D[j]? = some π := fun j hj => ⟨_, List.getElem?_eq_getElem (by omega)⟩
  have hP : ∀ (j : Nat) (π : a_PT), D[j]? = some π → π = [] ∨ ∃ (i : Nat) (π' : a_PT) (v : (Int × Int × Int) × (Int × Int × Int × Int)), D[i]? = some π' ∧ v ∈ kds σ m R way π' ∧ π = v.1 :: π' := fun j π hj => by
    rcases (d2 j π hj).2 with ⟨y, _⟩ | ⟨i, π', x, v, _, _, y3, y4, y5⟩
    · exact Or.inl y
    · exact Or.inr ⟨i, π', v, y3, List.mem_of_getElem? y4, y5⟩
  have hC : ∀ (j : Nat) (π : a_PT), D[j]? = some π → ∀ v, v ∈ kds σ m R way π → ∃ c : Nat, D[c]? = some (v.1 :: π) := fun j π hj v hv => by
    obtain ⟨d, _, _, _, a4⟩ := d3 j π hj
    obtain ⟨x, hx⟩ := List.mem_iff_getElem?.mp hv
    obtain ⟨c, _, c2, _⟩ := a4 x v hx
    exact ⟨c, c2⟩
  have hch : ∀ (π : a_PT) (j : Nat), D[j]? = some π → CHp H (π.length + 1) (300 * (f : Int) + j) := by
    intro π
    induction π with
    | nil =>
      intro j hj
      have hjl := (List.getElem?_eq_some_iff.mp hj).1
      rcases (d2 j _ hj).2 with ⟨_, y⟩ | ⟨i, π', x, v, _, _, _, _, y5⟩
      · exact ⟨by omega, by omega, y⟩
      · cases y5
    | cons e π ih =>
      intro j hj
      have hjl := (List.getElem?_eq_some_iff.mp hj).1
      rcases (d2 j _ hj).2 with ⟨y, _⟩ | ⟨i, π', x, v, _, y2, y3, _, y5⟩
      · cases y
      · obtain ⟨_, e2⟩ := List.cons.inj y5
        subst e2
        refine ⟨by omega, by omega, ?_⟩
        rw [y2]
        exact ih i y3
  have hlen : ∀ (j : Nat) (π : a_PT), D[j]? = some π → π.length + 1 ≤ hN N := fun j π hj => by
    obtain ⟨k, A, a1, a2, a3⟩ := dp_le d0 hP π j hj
    rw [eh]
    cases k with
    | zero => exact a2.elim
    | succ k =>
      have e3 : hgt σ m R way (k + 1) π = 1 + mxk (fun v => hgt σ m R way k (v.1 :: π)) (kds σ m R way π) := rfl
      omega
  have hN1 : hN N ≤ 1000 := by
    have hle : ∀ (k : Nat) (L : List a_ND), L.length ≤ k → htf k L ≤ L.length := by
      intro k
      induction k with
      | zero => intro L _; exact Nat.zero_le _
      | succ k ih =>
        intro L hL
        cases L with
        | nil => rw [htf_nil]; exact Nat.zero_le _
        | cons d L =>
          rw [List.length_cons] at hL ⊢
          have a1 : (L.take (d.2.2.2.2.2.toNat - 1)).length ≤ L.length := by rw [List.length_take]; exact Nat.min_le_right _ _
          have a2 : (L.drop (d.2.2.2.2.2.toNat - 1)).length ≤ L.length := by rw [List.length_drop]; exact Nat.sub_le _ _
          have b1 := ih _ (Nat.le_trans a1 (by omega))
          have b2 := ih _ (Nat.le_trans a2 (by omega))
          have hm := mx2_s (1 + htf k (L.take (d.2.2.2.2.2.toNat - 1))) (htf k (L.drop (d.2.2.2.2.2.toNat - 1)))
          show mx2 (1 + htf k (L.take (d.2.2.2.2.2.toNat - 1))) (htf k (L.drop (d.2.2.2.2.2.toNat - 1))) ≤ L.length + 1
          omega
    have := hle N.length N (Nat.le_refl _)
    show htf N.length N ≤ 1000
    omega
  obtain ⟨π0, h0⟩ := hdep 0 (by omega)
  have e0 := (d2 0 π0 h0).1 rfl
  rw [e0] at h0
  obtain ⟨j', π', q1, q2⟩ := dp_at hC k0 [] N 0 h0 d0
  rw [List.length_nil, Nat.zero_add, ← eh] at q2
  have hgd : ∀ (j : Nat) (π : a_PT), D[j]? = some π → ((D[j]?).getD []).length + 1 = π.length + 1 := fun j π hj => by rw [hj]; rfl
  refine nM_depth (dep := fun j => ((D[j]?).getD []).length + 1) hf h99 hn (fun j hj => ?_) (fun j hj => ?_) ⟨j', by have := (List.getElem?_eq_some_iff.mp q1).1; omega, ?_⟩ hQ
  · obtain ⟨π, hπ⟩ := hdep j hj
    show CHp H (((D[j]?).getD []).length + 1) _ ∧ ((D[j]?).getD []).length + 1 ≤ 1000
    rw [hgd j π hπ]
    exact ⟨hch π j hπ, Nat.le_trans (hlen j π hπ) hN1⟩
  · obtain ⟨π, hπ⟩ := hdep j hj
    show ((D[j]?).getD []).length + 1 ≤ _
    rw [hgd j π hπ]
    exact hlen j π hπ
  · show ((D[j']?).getD []).length + 1 = _
    rw [hgd j' π' q1]
    exact q2
/-- function, the class -/
theorem vP_function {l1 l2 : Int} (hS : zSX H G) (hno : ¬ ((0 ≤ l1 ∧ l1 < H 14 3) ∧ 0 ≤ l2 ∧ l2 ≤ 8) → Q (-1) H G) (q0 : 0 ≤ l1 ∧ l1 < H 14 3 → l2 = 0 → Q (H (H 15 l1) 1) H G) (q1 : 0 ≤ l1 ∧ l1 < H 14 3 → l2 = 1 → Q (H (H 15 l1) 3) H G) (q2 : 0 ≤ l1 ∧ l1 < H 14 3 → l2 = 2 → Q (H (H 15 l1) 5) H G) (q3 : 0 ≤ l1 ∧ l1 < H 14 3 → l2 = 3 → Q (H (H (H 15 l1) 10) 0) H G) (q4 : 0 ≤ l1 ∧ l1 < H 14 3 → l2 = 4 → Q (H (H (H 15 l1) 10) 2) H G) (q5 : 0 ≤ l1 ∧ l1 < H 14 3 → l2 = 5 → Q (H (H (H 15 l1) 10) 1) H G) (q6 : 0 ≤ l1 ∧ l1 < H 14 3 → (6 ≤ l2 ∧ l2 ≤ 8) → l2 - 6 < H (H 15 l1) 1 → Q (H (H (H 15 l1) 2) (l2 - 6)) H G) (q7 : 0 ≤ l1 ∧ l1 < H 14 3 → (6 ≤ l2 ∧ l2 ≤ 8) → ¬ (l2 - 6 < H (H 15 l1) 1) → Q (-4) H G) : wP_function Q l1 l2 H G := by
  refine zR_fA hS l1 (fun hz hfu => brF (by have := hfu.1.1; omega) ?_) (fun hz => brT (by decide) (hno (fun z => hz z.1)))
  by_cases a : l2 < 0
  · exact brT a (hno (fun z => by omega))
  refine brF a ?_
  by_cases b : 8 < l2
  · exact brT b (hno (fun z => by omega))
  have o := ga_ob (c := 8) hfu.1.2
  have o5 := ga_ob (c := 5) hfu.2.2.2.2.2.1.2.1
  obtain ⟨h2, h3, h4⟩ := hfu.2.1
  refine brF b ⟨o, fun z => ⟨o, q0 hz z⟩, fun z => ⟨o, q1 hz z⟩, fun z => ⟨o, q2 hz z⟩, fun z => ⟨o, o5, q3 hz z⟩, fun z => ⟨o, o5, q4 hz z⟩, fun z => ⟨o, o5, q5 hz z⟩, fun z => ?_⟩
  rw [e3_w32_id (by omega) (by omega)]
  refine ⟨fun y => ?_, fun c => ⟨o, fun d => ⟨o, ga_oa h4 (by omega) (by omega), q6 hz (by omega) d⟩, fun d => q7 hz (by omega) d⟩⟩
  exfalso
  omega
/-- function, the reference -/
theorem nM_function {l1 l2 : Int} {nf : Nat} (h12 : nf ≤ 12) (h41 : H 40 41 = (nf : Int)) (h68 : 0 ≤ l1 ∧ l1 < (nf : Int) → H 68 l1 ≤ 3) (hno : ¬ ((0 ≤ l1 ∧ l1 < (nf : Int)) ∧ 0 ≤ l2 ∧ l2 ≤ 8) → Q (-1) H G) (q0 : 0 ≤ l1 ∧ l1 < (nf : Int) → l2 = 0 → Q (H 68 l1) H G) (q1 : 0 ≤ l1 ∧ l1 < (nf : Int) → l2 = 1 → Q (H 70 l1) H G) (q2 : 0 ≤ l1 ∧ l1 < (nf : Int) → l2 = 2 → Q (H 71 l1) H G) (q3 : 0 ≤ l1 ∧ l1 < (nf : Int) → l2 = 3 → Q (H 99 l1) H G) (q4 : 0 ≤ l1 ∧ l1 < (nf : Int) → l2 = 4 → Q (H 100 l1) H G) (q5 : 0 ≤ l1 ∧ l1 < (nf : Int) → l2 = 5 → wM_depth (fun x14 H12 G13 => Q x14 H12 G13) l1 H G) (q6 : 0 ≤ l1 ∧ l1 < (nf : Int) → (6 ≤ l2 ∧ l2 ≤ 8) → l2 - 6 < H 68 l1 → Q (H 69 (3 * l1 + (l2 - 6))) H G) (q7 : 0 ≤ l1 ∧ l1 < (nf : Int) → (6 ≤ l2 ∧ l2 ≤ 8) → ¬ (l2 - 6 < H 68 l1) → Q (-4) H G) : wM_function Q l1 l2 H G := by
  refine cM_in (fun a b => ⟨Or.inr rfl, brF (by decide) ?_⟩) (fun z => ⟨Or.inl rfl, brT rfl (hno (fun y => z ?_))⟩)
  · rw [h41, e3_w32_id (by omega) (by omega)] at b
    have hl : 0 ≤ l1 ∧ l1 < (nf : Int) := by omega
    have h68 := h68 hl
    refine cM_in (fun c d => brF (by decide) ?_) (fun z => brT rfl (hno (fun y => z y.2)))
    refine ⟨fun z => ⟨by omega, q0 hl z⟩, fun z => ⟨by omega, q1 hl z⟩, fun z => ⟨by omega, q2 hl z⟩, fun z => ⟨by omega, q3 hl z⟩, fun z => ⟨by omega, q4 hl z⟩, fun z => q5 hl z, fun z => ⟨by omega, ?_⟩⟩
    rw [e3_w32_id (x := l2 - 6) (by omega) (by omega)]
    refine ⟨fun y => ?_, fun y => q7 hl (by omega) y⟩
    rw [e3_w32_id (x := 3 * l1) (by omega) (by omega), e3_w32_id (x := 3 * l1 + l2) (by omega) (by omega), e3_w32_id (x := 3 * l1 + l2 - 6) (by omega) (by omega), show 3 * l1 + l2 - 6 = 3 * l1 + (l2 - 6) by omega]
    exact ⟨by omega, q6 hl (by omega) y⟩
  · rw [h41, e3_w32_id (by omega) (by omega)]
    have := y.1
    omega
end DEQ
section E2F
variable {n : Nat} {H : e3_H} {G : e3_G} {R : Int → Int → e3_H → e3_G → Prop} {W Q : Int → e3_H → e3_G → Prop}
/-- what a FUNCTION tells, here and there -/
theorem JI_fn (h : JI n H G) {f : Nat} (hf : (f : Int) < H 14 3) : (H (H 15 f) 1 = H 68 f ∧ H 68 f ≤ 3 ∧ H (H 15 f) 3 = H 70 f ∧ H (H 15 f) 5 = H 71 f ∧ ∀ c : Nat, (c : Int) < H 68 f → H (H (H 15 f) 2) c = H 69 (3 * (f : Int) + c)) ∧ H (H (H 15 f) 10) 0 = H 99 f ∧ H (H (H 15 f) 10) 2 = H 100 f ∧ ∃ v : Int, H (H (H 15 f) 10) 1 = v ∧ ∀ (Q : Int → e3_H → e3_G → Prop) (G : e3_G), Q v H G → wM_depth Q f H G := by
  rcases h.2.2.2.2 with ⟨_, _, k14, _⟩ | ⟨_, _, σ, g, m, nf, Vs, mr0, way, km, N, p1, p2, p3, p4, p5, p6⟩
  · omega
  have e14 : H 14 3 = (nf : Int) := p2.1
  have hf : f < nf := by omega
  have h12 := p1.1.2.1
  have htb := p5.1
  obtain ⟨cx, cnt, c1, c2, c3, c4, c5, c6⟩ := p2.2.2.2.2.2 f hf
  obtain ⟨⟨t1, t2, t3, t4⟩, _, σt, mt, _, t5⟩ := p6.2 f hf
  obtain ⟨cx2, pn, cnt2, mm, A, B, b1, b2, b3, b4, b5, b6, b7⟩ := p2.2.2.1 f hf
  have hr := p1.2.2.1 f hf
  have hone := p1.1.2.2.2.1 f (by omega) (by omega)
  obtain ⟨f1, f2, f3, f4⟩ := b5
  have e68 : H 68 f = σ 68 f := htb 68 _ (by decide) (by decide) (by decide)
  have e70 : H 70 f = σ 70 f := htb 70 _ (by decide) (by decide) (by decide)
  have e71 : H 71 f = σ 71 f := htb 71 _ (by decide) (by decide) (by decide)
  have h168 := hone.2.1
  refine ⟨⟨by rw [e68, f1]; omega, by rw [e68]; omega, by rw [e70, b2]; exact b1.2.2.2.2.1.1, ?_, fun c hc => ?_⟩, by rw [c3, t1], by rw [c4, t2], (hN (N f) : Int), c5.2, fun Q G hQ => nM_dep (by omega) t1 t4 t5 hQ⟩
  · have em : (σ 70 f).toNat = mm := by omega
    rw [e71, b6, hr.2.1, em]
  · rw [e68] at hc
    rw [htb 69 _ (by decide) (by decide) (by decide)]
    exact (f4 c (by omega)).1
theorem j_function_e {l1 l2 : Int} (h : JI n H G) (hR : JRe n H G R) (hW : JW H R (fun Q H G => wM_function Q l1 l2 H G) W) : wP_function W l1 l2 H G := by
  have go : ∀ x : Int, R x x H G := fun x => hR x n H G h (by omega) (fun _ => rfl)
  have hS := (JI_K h).2.2
  obtain ⟨nf, hT⟩ := JI_T h
  obtain ⟨h12, h41, _, _⟩ := id hT
  have e14 := JI_41 h
  have ef : 0 ≤ l1 → ((l1.toNat : Nat) : Int) = l1 := fun z => by omega
  have fx : 0 ≤ l1 ∧ l1 < H 14 3 → (H (H 15 l1) 1 = H 68 l1 ∧ H 68 l1 ≤ 3 ∧ H (H 15 l1) 3 = H 70 l1 ∧ H (H 15 l1) 5 = H 71 l1 ∧ ∀ c : Nat, (c : Int) < H 68 l1 → H (H (H 15 l1) 2) c = H 69 (3 * l1 + c)) ∧ H (H (H 15 l1) 10) 0 = H 99 l1 ∧ H (H (H 15 l1) 10) 2 = H 100 l1 ∧ ∃ v : Int, H (H (H 15 l1) 10) 1 = v ∧ ∀ (Q : Int → e3_H → e3_G → Prop) (G : e3_G), Q v H G → wM_depth Q l1 H G := fun z => by
    have := JI_fn h (f := l1.toNat) (by rw [ef z.1]; exact z.2)
    rw [ef z.1] at this
    exact this
  -- the reference answers x
  have key : ∀ x : Int, (¬ ((0 ≤ l1 ∧ l1 < (nf : Int)) ∧ 0 ≤ l2 ∧ l2 ≤ 8) → x = -1) → (0 ≤ l1 ∧ l1 < (nf : Int) → (l2 = 0 → x = H 68 l1) ∧ (l2 = 1 → x = H 70 l1) ∧ (l2 = 2 → x = H 71 l1) ∧ (l2 = 3 → x = H 99 l1) ∧ (l2 = 4 → x = H 100 l1) ∧ (l2 = 5 → x = H (H (H 15 l1) 10) 1) ∧ (6 ≤ l2 ∧ l2 ≤ 8 → l2 - 6 < H 68 l1 → x = H 69 (3 * l1 + (l2 - 6))) ∧ (6 ≤ l2 ∧ l2 ≤ 8 → ¬ (l2 - 6 < H 68 l1) → x = -4)) → W x H G := fun x a b => by
    refine hW x H G (fun _ => rfl) (nM_function h12 h41 (fun z => (fx (by omega)).1.2.1) (fun z => by rw [← a z]; exact go x) (fun z y => by rw [← (b z).1 y]; exact go x) (fun z y => by rw [← (b z).2.1 y]; exact go x) (fun z y => by rw [← (b z).2.2.1 y]; exact go x) (fun z y => by rw [← (b z).2.2.2.1 y]; exact go x) (fun z y => by rw [← (b z).2.2.2.2.1 y]; exact go x) (fun z y => ?_) (fun z y u => by rw [← (b z).2.2.2.2.2.2.1 y u]; exact go x) (fun z y u => by rw [← (b z).2.2.2.2.2.2.2 y u]; exact go x))
    obtain ⟨_, _, _, v, v1, v2⟩ := fx (by omega)
    have e := (b z).2.2.2.2.2.1 y
    rw [v1] at e
    refine v2 _ G ?_
    rw [← e]
    exact go x
  have no0 : ∀ {p : Prop}, (0 ≤ l1 ∧ l1 < H 14 3) ∧ 0 ≤ l2 ∧ l2 ≤ 8 → ¬ ((0 ≤ l1 ∧ l1 < (nf : Int)) ∧ 0 ≤ l2 ∧ l2 ≤ 8) → p := fun a b => absurd ⟨⟨a.1.1, by have := a.1.2; omega⟩, a.2⟩ b
  refine vP_function hS (fun z => key _ (fun _ => rfl) (fun y => ?_)) (fun z y => key _ (no0 ⟨z, by omega⟩) (fun _ => ?_)) (fun z y => key _ (no0 ⟨z, by omega⟩) (fun _ => ?_)) (fun z y => key _ (no0 ⟨z, by omega⟩) (fun _ => ?_)) (fun z y => key _ (no0 ⟨z, by omega⟩) (fun _ => ?_)) (fun z y => key _ (no0 ⟨z, by omega⟩) (fun _ => ?_)) (fun z y => key _ (no0 ⟨z, by omega⟩) (fun _ => ?_)) (fun z y u => key _ (no0 ⟨z, by omega⟩) (fun _ => ?_)) (fun z y u => key _ (no0 ⟨z, by omega⟩) (fun _ => ?_))
  · have : ¬ (0 ≤ l2 ∧ l2 ≤ 8) := fun q => z ⟨⟨y.1, by omega⟩, q⟩
    refine ⟨fun e => ?_, fun e => ?_, fun e => ?_, fun e => ?_, fun e => ?_, fun e => ?_, fun e e' => ?_, fun e e' => ?_⟩ <;> (exfalso; omega)
  · refine ⟨fun e => ?_, fun e => ?_, fun e => ?_, fun e => ?_, fun e => ?_, fun e => ?_, fun e e' => ?_, fun e e' => ?_⟩ <;> first | (exfalso; omega) | exact (fx z).1.1
  · refine ⟨fun e => ?_, fun e => ?_, fun e => ?_, fun e => ?_, fun e => ?_, fun e => ?_, fun e e' => ?_, fun e e' => ?_⟩ <;> first | (exfalso; omega) | exact (fx z).1.2.2.1
  · refine ⟨fun e => ?_, fun e => ?_, fun e => ?_, fun e => ?_, fun e => ?_, fun e => ?_, fun e e' => ?_, fun e e' => ?_⟩ <;> first | (exfalso; omega) | exact (fx z).1.2.2.2.1
  · refine ⟨fun e => ?_, fun e => ?_, fun e => ?_, fun e => ?_, fun e => ?_, fun e => ?_, fun e e' => ?_, fun e e' => ?_⟩ <;> first | (exfalso; omega) | exact (fx z).2.1
  · refine ⟨fun e => ?_, fun e => ?_, fun e => ?_, fun e => ?_, fun e => ?_, fun e => ?_, fun e e' => ?_, fun e e' => ?_⟩ <;> first | (exfalso; omega) | exact (fx z).2.2.1
  · refine ⟨fun e => ?_, fun e => ?_, fun e => ?_, fun e => ?_, fun e => ?_, fun e => ?_, fun e e' => ?_, fun e e' => ?_⟩ <;> first | (exfalso; omega) | exact rfl
  · have e1 := (fx z).1.1
    have e2 := (fx z).1.2.2.2.2 (l2 - 6).toNat (by omega)
    rw [show (((l2 - 6).toNat : Nat) : Int) = l2 - 6 by omega] at e2
    refine ⟨fun e => ?_, fun e => ?_, fun e => ?_, fun e => ?_, fun e => ?_, fun e => ?_, fun e e' => ?_, fun e e' => ?_⟩ <;> first | (exfalso; omega) | exact e2
  · have e1 := (fx z).1.1
    refine ⟨fun e => ?_, fun e => ?_, fun e => ?_, fun e => ?_, fun e => ?_, fun e => ?_, fun e e' => ?_, fun e e' => ?_⟩ <;> first | (exfalso; omega) | rfl
end E2F
