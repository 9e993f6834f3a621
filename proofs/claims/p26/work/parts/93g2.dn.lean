/-- where the trees behind a node begin -/
def szn (N : List a_ND) (p : Nat) : Nat := match N[p]? with
  | some d => d.2.2.2.2.2.toNat
  | none => 0
def chl (N : List a_ND) : Nat → Nat → List Nat
  | 0, _ => []
  | c + 1, p => p :: chl N c (p + szn N p)
theorem chl_len (N : List a_ND) : ∀ c p : Nat, (chl N c p).length = c := by
  intro c
  induction c with
  | zero => intro p; rfl
  | succ c ih => intro p; show (chl N c _).length + 1 = _; rw [ih]
theorem chl_ge (N : List a_ND) : ∀ c p x : Nat, x ∈ chl N c p → p ≤ x := by
  intro c
  induction c with
  | zero => intro p x h; exact absurd h (List.not_mem_nil)
  | succ c ih =>
    intro p x h
    rcases List.mem_cons.mp h with z | z
    · omega
    · have := ih _ x z
      omega
theorem chl_up (N : List a_ND) (b : Int) : ∀ c p : Nat, ((chl N c p).map (fun (x : Nat) => b + (x : Int))).Pairwise (fun x y => x ≤ y) := by
  intro c
  induction c with
  | zero => intro p; exact List.Pairwise.nil
  | succ c ih =>
    intro p
    refine List.Pairwise.cons (fun y hy => ?_) (ih _)
    obtain ⟨x, x1, x2⟩ := List.mem_map.mp hy
    have := chl_ge N c _ x x1
    have x2 : b + (x : Int) = y := x2
    show b + (p : Int) ≤ y
    omega
/-- an upward list within another of the same length -/
theorem inc_eq : ∀ (l2 l1 : List Int), l1.Pairwise (fun x y => x < y) → l2.Pairwise (fun x y => x ≤ y) → (∀ x, x ∈ l1 → x ∈ l2) → l1.length ≤ l2.length ∧ (l1.length = l2.length → l1 = l2) := by
  intro l2
  induction l2 with
  | nil =>
    intro l1 _ _ h
    cases l1 with
    | nil => exact ⟨Nat.le_refl _, fun _ => rfl⟩
    | cons a s => exact absurd (h a (List.mem_cons_self ..)) (List.not_mem_nil)
  | cons b t ih =>
    intro l1 h1 h2 h
    cases l1 with
    | nil => exact ⟨Nat.zero_le _, fun z => by cases z⟩
    | cons a s =>
      obtain ⟨a1, a2⟩ := List.pairwise_cons.mp h1
      obtain ⟨b1, b2⟩ := List.pairwise_cons.mp h2
      by_cases z : a = b
      · obtain ⟨i1, i2⟩ := ih s a2 b2 (fun x hx => by
          rcases List.mem_cons.mp (h x (List.mem_cons_of_mem _ hx)) with y | y
          · have := a1 x hx; omega
          · exact y)
        rw [List.length_cons, List.length_cons]
        exact ⟨by omega, fun w => by rw [z, i2 (by omega)]⟩
      · have hab : b < a := by
          rcases List.mem_cons.mp (h a (List.mem_cons_self ..)) with y | y
          · exact absurd y z
          · have := b1 a y; omega
        obtain ⟨i1, _⟩ := ih (a :: s) h1 b2 (fun x hx => by
          rcases List.mem_cons.mp (h x hx) with y | y
          · rcases List.mem_cons.mp hx with w | w
            · omega
            · have := a1 x w; omega
          · exact y)
        rw [List.length_cons (as := t)]
        exact ⟨by omega, fun w => by omega⟩
theorem cld_up {b par : Int} : ∀ (D : List (a_PT × Int)) (j : Nat), (cld b par D j).Pairwise (fun x y => x < y) := by
  intro D
  induction D with
  | nil => intro j; exact List.Pairwise.nil
  | cons a D ih =>
    intro j
    show ((if a.2 = par then [b + (j : Int)] else []) ++ cld b par D (j + 1)).Pairwise _
    split
    · refine List.Pairwise.cons (fun y hy => ?_) (ih _)
      obtain ⟨i, d, _, _, h3⟩ := cld_mem D (j + 1) hy
      rw [h3]
      omega
    · exact ih _
section DNS
variable {σ : e3_H} {m : Nat} {R : a_RW} {way : Int}
theorem gr_hd {k : Nat} {π : a_PT} {nd : a_ND} {N1 : List a_ND} (h : gr σ m R way k π (nd :: N1)) : nd.2.2.2.1 = ((kds σ m R way π).length : Int) ∧ nd.2.2.2.2.2 = (N1.length : Int) + 1 := by
  cases k with
  | zero => exact h.elim
  | succ k =>
    unfold gr at h
    unfold kds
    cases hf : fst σ π R 0 with
    | none =>
      rw [hf] at h
      simp only at h
      cases h
      exact ⟨rfl, rfl⟩
    | some u =>
      obtain ⟨i, r, T⟩ := u
      rw [hf] at h
      simp only at h ⊢
      cases hc : cho σ m R π way T 0 none 0 with
      | none =>
        rw [hc] at h
        simp only at h ⊢
        rcases h with ⟨h1, h2⟩ | ⟨h1, N2, h2, h3⟩
        · cases h2
          rw [if_pos h1]
          exact ⟨rfl, rfl⟩
        · cases h3
          rw [if_neg h1]
          exact ⟨rfl, Int.add_comm _ _⟩
      | some p =>
        obtain ⟨q, x⟩ := p
        rw [hc] at h
        obtain ⟨N2, h2, h3⟩ := h
        cases h3
        exact ⟨by rw [List.length_map], Int.add_comm _ _⟩
/-- what waits will stand where the list of nodes has it -/
def ZP (N0 : List a_ND) (b : Int) : Nat → List (a_PT × Int) → Prop
  | _, [] => True
  | p, a :: A => (∀ i : Nat, a.2 = b + (i : Int) → ∃ di : a_ND, N0[i]? = some di ∧ p ∈ chl N0 di.2.2.2.1.toNat (i + 1)) ∧ ZP N0 b (p + szn N0 p) A
/-- nodes that are made, and the list of nodes -/
def ZDN (σ : e3_H) (m : Nat) (R : a_RW) (way b : Int) (N0 : List a_ND) (D A : List (a_PT × Int)) (N : List a_ND) : Prop := (∃ M : List a_ND, N0 = M ++ N ∧ M.length = D.length) ∧ (∀ (j : Nat) (π : a_PT) (par : Int), D[j]? = some (π, par) → ∃ d : a_ND, N0[j]? = some d ∧ (∃ (k : Nat) (N' X : List a_ND), gr σ m R way k π (d :: N') ∧ N0.drop j = (d :: N') ++ X) ∧ ∀ i : Nat, par = b + (i : Int) → ∃ di : a_ND, N0[i]? = some di ∧ j ∈ chl N0 di.2.2.2.1.toNat (i + 1)) ∧ ZP N0 b D.length A
theorem ZDN_step {b : Int} {N0 : List a_ND} {D S : List (a_PT × Int)} {π : a_PT} {par : Int} {k : Nat} {nd : a_ND} {N1 NB : List a_ND} (h : ZDN σ m R way b N0 D ((π, par) :: S) (nd :: (N1 ++ NB))) (hg : gr σ m R way k π (nd :: N1)) (hL : grL σ m R way ((kds σ m R way π).map (fun v => v.1 :: π)) N1) : ZDN σ m R way b N0 (D ++ [(π, par)]) ((kds σ m R way π).map (fun v => (v.1 :: π, b + (D.length : Int))) ++ S) (N1 ++ NB) := by
  obtain ⟨⟨M, e1, e2⟩, h2, h3, h4⟩ := h
  obtain ⟨g1, g2⟩ := gr_hd hg
  have dr : N0.drop D.length = (nd :: N1) ++ NB := by rw [e1, ← e2, List.drop_left]; rfl
  have n0 : N0[D.length]? = some nd := by rw [e1, List.getElem?_append_right (by omega), e2, Nat.sub_self]; rfl
  have sz : szn N0 D.length = N1.length + 1 := by
    unfold szn
    rw [n0]
    show nd.2.2.2.2.2.toNat = _
    rw [g2]
    omega
  have hln : (D ++ [(π, par)]).length = D.length + 1 := by rw [List.length_append]; rfl
  refine ⟨⟨M ++ [nd], by rw [e1, List.append_assoc]; rfl, by rw [hln, List.length_append, e2]; rfl⟩, fun j π2 p2 hj => ?_, ?_⟩
  · by_cases hjD : j < D.length
    · rw [List.getElem?_append_left hjD] at hj
      exact h2 j π2 p2 hj
    · rw [List.getElem?_append_right (by omega)] at hj
      have h0 : j - D.length < 1 := (List.getElem?_eq_some_iff.mp hj).1
      have hjJ : j = D.length := by omega
      rw [hjJ, Nat.sub_self] at hj
      have hj : some (π, par) = some (π2, p2) := hj
      cases hj
      rw [hjJ]
      exact ⟨nd, n0, ⟨k, N1, NB, hg, dr⟩, h3⟩
  · rw [hln]
    have key : ∀ (P : List a_PT) (X : List a_ND) (q : Nat), grL σ m R way P X → (∃ M2 : List a_ND, N0 = M2 ++ (X ++ NB) ∧ M2.length = q) → (∀ x, x ∈ chl N0 P.length q → x ∈ chl N0 nd.2.2.2.1.toNat (D.length + 1)) → ZP N0 b (q + X.length) S → ZP N0 b q (P.map (fun π' => (π', b + (D.length : Int))) ++ S) := by
      intro P
      induction P with
      | nil =>
        intro X q hX _ _ hS
        have hX : X = [] := hX
        rw [hX] at hS
        exact hS
      | cons π' P ih =>
        intro X q hX hM hs hS
        obtain ⟨k', A, B, hAB, hgA, hgB⟩ := hX
        obtain ⟨nd', A1, hA, _⟩ := gr_kds hgA
        obtain ⟨M2, m1, m2⟩ := hM
        rw [hA] at hgA
        have n1 : N0[q]? = some nd' := by rw [m1, List.getElem?_append_right (by omega), m2, Nat.sub_self, hAB, hA]; rfl
        have sz1 : szn N0 q = A.length := by
          unfold szn
          rw [n1, hA]
          show nd'.2.2.2.2.2.toNat = A1.length + 1
          rw [(gr_hd hgA).2]
          omega
        refine ⟨fun i hi => ?_, ?_⟩
        · have hi : b + (D.length : Int) = b + (i : Int) := hi
          have e : i = D.length := by omega
          rw [e]
          exact ⟨nd, n0, hs q (List.mem_cons_self ..)⟩
        · rw [sz1]
          refine ih B (q + A.length) hgB ⟨M2 ++ A, by rw [m1, hAB, List.append_assoc, List.append_assoc], by rw [List.length_append, m2]⟩ (fun x hx => hs x ?_) ?_
          · refine List.mem_cons_of_mem _ ?_
            rw [sz1]
            exact hx
          · rw [hAB, List.length_append, ← Nat.add_assoc] at hS
            exact hS
    have em : (kds σ m R way π).map (fun v => ((v.1 :: π, b + (D.length : Int)) : a_PT × Int)) = ((kds σ m R way π).map (fun v => v.1 :: π)).map (fun π' => (π', b + (D.length : Int))) := by
      rw [List.map_map]
      rfl
    rw [em]
    refine key _ N1 (D.length + 1) hL ⟨M ++ [nd], by rw [e1, List.append_assoc]; rfl, by rw [List.length_append, e2]; rfl⟩ (fun x hx => ?_) ?_
    · rw [List.length_map] at hx
      rw [show nd.2.2.2.1.toNat = (kds σ m R way π).length by omega]
      exact hx
    · rw [sz] at h4
      rw [show D.length + 1 + N1.length = D.length + (N1.length + 1) by omega]
      exact h4
end DNS
