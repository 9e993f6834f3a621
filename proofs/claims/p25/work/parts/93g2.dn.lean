/-- where the trees behind a node begin -/
def szn (N : List a_ND) (p : Nat) : Nat := match N[p]? with
  | some d => d.2.2.2.2.2.toNat
  | none => 0
def chl (N : List a_ND) : Nat → Nat → List Nat
  | 0, _ => []
  | c + 1, p => p :: chl N c (p + szn N p)
theorem chl_len (N : List a_ND) : ∀ c p : Nat, (chl N c p).length = c := by
  intro c
  induction c with
  | zero => intro p; rfl
  | succ c ih => intro p; show (chl N c _).length + 1 = _; rw [ih]
theorem chl_ge (N : List a_ND) : ∀ c p x : Nat, x ∈ chl N c p → p ≤ x := by
  intro c
  induction c with
  | zero => intro p x h; exact absurd h (List.not_mem_nil)
  | succ c ih =>
    intro p x h
    rcases List.mem_cons.mp h with z | z
    · omega
    · have := ih _ x z
      omega
theorem chl_up (N : List a_ND) (b : Int) : ∀ c p : Nat, ((chl N c p).map (fun (x : Nat) => b + (x : Int))).Pairwise (fun x y => x ≤ y) := by
  intro c
  induction c with
  | zero => intro p; exact List.Pairwise.nil
  | succ c ih =>
    intro p
    refine List.Pairwise.cons (fun y hy => ?_) (ih _)
    obtain ⟨x, x1, x2⟩ := List.mem_map.mp hy
    have := chl_ge N c _ x x1
    have x2 : b + (x : Int) = y := x2
    show b + (p : Int) ≤ y
    omega
/-- an upward list within another of the same length -/
theorem inc_eq : ∀ (l2 l1 : List Int), l1.Pairwise (fun x y => x < y) → l2.Pairwise (fun x y => x ≤ y) → (∀ x, x ∈ l1 → x ∈ l2) → l1.length ≤ l2.length ∧ (l1.length = l2.length → l1 = l2) := by
  intro l2
  induction l2 with
  | nil =>
    intro l1 _ _ h
    cases l1 with
    | nil => exact ⟨Nat.le_refl _, fun _ => rfl⟩
    | cons a s => exact absurd (h a (List.mem_cons_self ..)) (List.not_mem_nil)
  | cons b t ih =>
    intro l1 h1 h2 h
    cases l1 with
    | nil => exact ⟨Nat.zero_le _, fun z => by cases z⟩
    | cons a s =>
      obtain ⟨a1, a2⟩ := List.pairwise_cons.mp h1
      obtain ⟨b1, b2⟩ := List.pairwise_cons.mp h2
      by_cases z : a = b
      · obtain ⟨i1, i2⟩ := ih s a2 b2 (fun x hx => by
          rcases List.mem_cons.mp (h x (List.mem_cons_of_mem _ hx)) with y | y
          · have := a1 x hx; omega
          · exact y)
        rw [List.length_cons, List.length_cons]
        exact ⟨by omega, fun w => by rw [z, i2 (by omega)]⟩
      · have hab : b < a := by
          rcases List.mem_cons.mp (h a (List.mem_cons_self ..)) with y | y
          · exact absurd y z
          · have := b1 a y; omega
        obtain ⟨i1, _⟩ := ih (a :: s) h1 b2 (fun x hx => by
          rcases List.mem_cons.mp (h x hx) with y | y
          · rcases List.mem_cons.mp hx with w | w
            · omega
            · have := a1 x w; omega
          · exact y)
        rw [List.length_cons (as := t)]
        exact ⟨by omega, fun w => by omega⟩
theorem cld_up {b par : Int} : ∀ (D : List (a_PT × Int)) (j : Nat), (cld b par D j).Pairwise (fun x y => x < y) := by
  intro D
  induction D with
  | nil => intro j; exact List.Pairwise.nil
  | cons a D ih =>
    intro j
    show ((if a.2 = par then [b + (j : Int)] else []) ++ cld b par D (j + 1)).Pairwise _
    split
    · refine List.Pairwise.cons (fun y hy => ?_) (ih _)
      obtain ⟨i, d, _, _, h3⟩ := cld_mem D (j + 1) hy
      rw [h3]
      omega
    · exact ih _
section DNS
variable {σ : e3_H} {m : Nat} {R : a_RW} {way : Int}
theorem gr_hd {k : Nat} {π : a_PT} {nd : a_ND} {N1 : List a_ND} (h : gr σ m R way k π (nd :: N1)) : nd.2.2.2.1 = ((kds σ m R way π).length : Int) ∧ nd.2.2.2.2.2 = (N1.length : Int) + 1 := by
  cases k with
  | zero => exact h.elim
  | succ k =>
    unfold gr at h
    unfold kds
    cases hf : fst σ π R 0 with
    | none =>
      rw [hf] at h
      simp only at h
      cases h
      exact ⟨rfl, rfl⟩
    | some u =>
      obtain ⟨i, r, T⟩ := u
      rw [hf] at h
      simp only at h ⊢
      cases hc : cho σ m R π way T 0 none 0 with
      | none =>
        rw [hc] at h
        simp only at h ⊢
        rcases h with ⟨h1, h2⟩ | ⟨h1, N2, h2, h3⟩
        · cases h2
          rw [if_pos h1]
          exact ⟨rfl, rfl⟩
        · cases h3
          rw [if_neg h1]
          exact ⟨rfl, Int.add_comm _ _⟩
      | some p =>
        obtain ⟨q, x⟩ := p
        rw [hc] at h
        obtain ⟨N2, h2, h3⟩ := h
        cases h3
        exact ⟨by rw [List.length_map], Int.add_comm _ _⟩
/-- where a node stands behind another -/
def ZC (σ : e3_H) (m : Nat) (R : a_RW) (way b : Int) (N0 : List a_ND) (D : List (a_PT × Int)) (π : a_PT) (par : Int) (p : Nat) : Prop := ∀ i : Nat, par = b + (i : Int) → ∃ (di : a_ND) (πi : a_PT) (pi : Int) (x : Nat) (v : (Int × Int × Int) × (Int × Int × Int × Int)), N0[i]? = some di ∧ D[i]? = some (πi, pi) ∧ (chl N0 di.2.2.2.1.toNat (i + 1))[x]? = some p ∧ (kds σ m R way πi)[x]? = some v ∧ π = v.1 :: πi
/-- what waits will stand where the list of nodes has it -/
def ZP (σ : e3_H) (m : Nat) (R : a_RW) (way : Int) (N0 : List a_ND) (b : Int) (D : List (a_PT × Int)) : Nat → List (a_PT × Int) → Prop
  | _, [] => True
  | p, a :: A => ZC σ m R way b N0 D a.1 a.2 p ∧ ZP σ m R way N0 b D (p + szn N0 p) A
theorem ZC_mono {b : Int} {N0 : List a_ND} {D : List (a_PT × Int)} {π : a_PT} {par : Int} {p : Nat} {y : a_PT × Int} (h : ZC σ m R way b N0 D π par p) : ZC σ m R way b N0 (D ++ [y]) π par p := fun i hi => by
  obtain ⟨di, πi, pi, x, v, h1, h2, h3⟩ := h i hi
  exact ⟨di, πi, pi, x, v, h1, by rw [List.getElem?_append_left (List.getElem?_eq_some_iff.mp h2).1]; exact h2, h3⟩
theorem ZP_mono {b : Int} {N0 : List a_ND} {D : List (a_PT × Int)} {y : a_PT × Int} : ∀ (A : List (a_PT × Int)) (p : Nat), ZP σ m R way N0 b D p A → ZP σ m R way N0 b (D ++ [y]) p A := by
  intro A
  induction A with
  | nil => intro p _; trivial
  | cons a A ih => intro p h; exact ⟨ZC_mono h.1, ih _ h.2⟩
/-- nodes that are made, and the list of nodes -/
def ZDN (σ : e3_H) (m : Nat) (R : a_RW) (way b : Int) (N0 : List a_ND) (D A : List (a_PT × Int)) (N : List a_ND) : Prop := (∃ M : List a_ND, N0 = M ++ N ∧ M.length = D.length) ∧ (∀ (j : Nat) (π : a_PT) (par : Int), D[j]? = some (π, par) → ∃ d : a_ND, N0[j]? = some d ∧ (∃ (k : Nat) (N' X : List a_ND), gr σ m R way k π (d :: N') ∧ N0.drop j = (d :: N') ++ X) ∧ ZC σ m R way b N0 D π par j) ∧ ZP σ m R way N0 b D D.length A
theorem ZDN_step {b : Int} {N0 : List a_ND} {D S : List (a_PT × Int)} {π : a_PT} {par : Int} {k : Nat} {nd : a_ND} {N1 NB : List a_ND} (h : ZDN σ m R way b N0 D ((π, par) :: S) (nd :: (N1 ++ NB))) (hg : gr σ m R way k π (nd :: N1)) (hL : grL σ m R way ((kds σ m R way π).map (fun v => v.1 :: π)) N1) : ZDN σ m R way b N0 (D ++ [(π, par)]) ((kds σ m R way π).map (fun v => (v.1 :: π, b + (D.length : Int))) ++ S) (N1 ++ NB) := by
  obtain ⟨⟨M, e1, e2⟩, h2, h3, h4⟩ := h
  obtain ⟨g1, g2⟩ := gr_hd hg
  have dr : N0.drop D.length = (nd :: N1) ++ NB := by rw [e1, ← e2, List.drop_left]; rfl
  have n0 : N0[D.length]? = some nd := by rw [e1, List.getElem?_append_right (by omega), e2, Nat.sub_self]; rfl
  have sz : szn N0 D.length = N1.length + 1 := by
    unfold szn
    rw [n0]
    show nd.2.2.2.2.2.toNat = _
    rw [g2]
    omega
  have hln : (D ++ [(π, par)]).length = D.length + 1 := by rw [List.length_append]; rfl
  have hlast : (D ++ [(π, par)])[D.length]? = some (π, par) := by rw [List.getElem?_append_right (Nat.le_refl _), Nat.sub_self]; rfl
  refine ⟨⟨M ++ [nd], by rw [e1, List.append_assoc]; rfl, by rw [hln, List.length_append, e2]; rfl⟩, fun j π2 p2 hj => ?_, ?_⟩
  · by_cases hjD : j < D.length
    · rw [List.getElem?_append_left hjD] at hj
      obtain ⟨d, a1, a2, a3⟩ := h2 j π2 p2 hj
      exact ⟨d, a1, a2, ZC_mono a3⟩
    · rw [List.getElem?_append_right (by omega)] at hj
      have h0 : j - D.length < 1 := (List.getElem?_eq_some_iff.mp hj).1
      have hjJ : j = D.length := by omega
      rw [hjJ, Nat.sub_self] at hj
      have hj : some (π, par) = some (π2, p2) := hj
      cases hj
      rw [hjJ]
      exact ⟨nd, n0, ⟨k, N1, NB, hg, dr⟩, ZC_mono h3⟩
  · rw [hln]
    have key : ∀ (Kd : List ((Int × Int × Int) × (Int × Int × Int × Int))) (X : List a_ND) (q s : Nat), grL σ m R way (Kd.map (fun v => v.1 :: π)) X → (∃ M2 : List a_ND, N0 = M2 ++ (X ++ NB) ∧ M2.length = q) → (∀ t : Nat, t < Kd.length → (chl N0 nd.2.2.2.1.toNat (D.length + 1))[s + t]? = (chl N0 Kd.length q)[t]?) → (∀ t : Nat, t < Kd.length → (kds σ m R way π)[s + t]? = Kd[t]?) → ZP σ m R way N0 b (D ++ [(π, par)]) (q + X.length) S → ZP σ m R way N0 b (D ++ [(π, par)]) q (Kd.map (fun v => (v.1 :: π, b + (D.length : Int))) ++ S) := by
      intro Kd
      induction Kd with
      | nil =>
        intro X q s hX _ _ _ hS
        have hX : X = [] := hX
        rw [hX] at hS
        exact hS
      | cons v Kd ih =>
        intro X q s hX hM hs hk hS
        obtain ⟨k', A, B, hAB, hgA, hgB⟩ := hX
        obtain ⟨nd', A1, hA, _⟩ := gr_kds hgA
        obtain ⟨M2, m1, m2⟩ := hM
        rw [hA] at hgA
        have n1 : N0[q]? = some nd' := by rw [m1, List.getElem?_append_right (by omega), m2, Nat.sub_self, hAB, hA]; rfl
        have sz1 : szn N0 q = A.length := by
          unfold szn
          rw [n1, hA]
          show nd'.2.2.2.2.2.toNat = A1.length + 1
          rw [(gr_hd hgA).2]
          omega
        refine ⟨fun i hi => ?_, ?_⟩
        · have hi : b + (D.length : Int) = b + (i : Int) := hi
          have e : i = D.length := by omega
          rw [e]
          refine ⟨nd, π, par, s, v, n0, hlast, ?_, ?_, rfl⟩
          · exact hs 0 (by rw [List.length_cons]; omega)
          · exact hk 0 (by rw [List.length_cons]; omega)
        · rw [sz1]
          refine ih B (q + A.length) (s + 1) hgB ⟨M2 ++ A, by rw [m1, hAB, List.append_assoc, List.append_assoc], by rw [List.length_append, m2]⟩ (fun t ht => ?_) (fun t ht => ?_) ?_
          · have := hs (t + 1) (by rw [List.length_cons]; omega)
            rw [show s + (t + 1) = s + 1 + t by omega] at this
            rw [this]
            show (chl N0 Kd.length (q + szn N0 q))[t]? = _
            rw [sz1]
          · have := hk (t + 1) (by rw [List.length_cons]; omega)
            rw [show s + (t + 1) = s + 1 + t by omega] at this
            rw [this]
            rfl
          · rw [hAB, List.length_append, ← Nat.add_assoc] at hS
            exact hS
    refine key _ N1 (D.length + 1) 0 hL ⟨M ++ [nd], by rw [e1, List.append_assoc]; rfl, by rw [List.length_append, e2]; rfl⟩ (fun t ht => ?_) (fun t ht => ?_) ?_
    · rw [Nat.zero_add, show nd.2.2.2.1.toNat = (kds σ m R way π).length by omega]
    · rw [Nat.zero_add]
    · rw [sz] at h4
      rw [show D.length + 1 + N1.length = D.length + (N1.length + 1) by omega]
      exact ZP_mono S _ h4
end DNS
