/-- a NAME is noted somewhere under a pattern -/
def ntd (σ : e3_H) : Nat → Int → Int → Prop
  | 0, _, _ => False
  | k + 1, q, n => σ 53 q = n ∨ σ 54 q = n ∨ ∃ (L : List Int) (c : Int), (ach σ (σ 51 q) L ∧ ∀ y, y ∈ L → y ≠ -4) ∧ c ∈ L ∧ ntd σ k c n
theorem ntd_V {σ : e3_H} {n : Int} : ∀ (k : Nat) (q w x : Int) (V : List (Int × Int)), lyV σ k q w x V → ∀ p, p ∈ V → (σ 53 p.1 = n ∨ σ 54 p.1 = n) → ntd σ k q n := by
  intro k
  induction k with
  | zero => intro q w x V h; exact h.elim
  | succ k ih =>
    intro q w x V h p hp hn
    obtain ⟨L, V1, hL, e, h⟩ := h
    rw [e] at hp
    rcases List.mem_cons.mp hp with z | z
    · rw [z] at hn
      rcases hn with y | y
      · exact Or.inl y
      · exact Or.inr (Or.inl y)
    · rcases h with ⟨_, A', c, B', eA, _, _, v⟩ | ⟨_, _, _, _, v⟩
      · exact Or.inr (Or.inr ⟨L, c, hL, by rw [eA]; exact List.mem_append_right _ (List.mem_cons_self ..), ih c _ x V1 v p z hn⟩)
      · obtain ⟨c, w', x', V3, q0, q1, q2⟩ := lyC_all L _ _ V1 v p z
        exact Or.inr (Or.inr ⟨L, c, hL, q0, ih c w' x' V3 q1 p q2 hn⟩)
theorem sn_ntd {σ : e3_H} {n : Int} : ∀ (k : Nat) (q e : Int), sn σ k q e → 0 ≤ q → ntd σ k q n → ∃ x : Int, q ≤ x ∧ x < e ∧ (σ 53 x = n ∨ σ 54 x = n) := by
  intro k
  induction k with
  | zero => intro q e h; exact h.elim
  | succ k ih =>
    intro q e h hq hn
    obtain ⟨hlt, L, a1, a2, a3⟩ := h
    rcases hn with z | z | ⟨L2, c, ⟨b1, b2⟩, b3, b4⟩
    · exact ⟨q, Int.le_refl _, hlt, Or.inl z⟩
    · exact ⟨q, Int.le_refl _, hlt, Or.inr z⟩
    · have hn : ∀ y, y ∈ L → y ≠ -4 := fun y hy => by have := (a2 y hy).1; omega
      have e1 : L2 = L := ach_inj L2 L _ b2 hn b1 a1
      subst e1
      obtain ⟨u1, ec, u2, u3⟩ := a2 c b3
      obtain ⟨x, x1, x2, x3⟩ := ih c ec u3 (by omega) b4
      exact ⟨x, by omega, by omega, x3⟩
/-- of an EITHER: what is noted under one of its patterns is noted on every way of each -/
theorem sn_alt {σ : e3_H} {k n : Nat} {q e c d : Int} {L : List Int} (h : sn σ (k + 1) q e) (hq : 0 ≤ q) (h6 : σ 46 q = 6) (hL : ach σ (σ 51 q) L) (hL4 : ∀ y, y ∈ L → y ≠ -4) (hc : c ∈ L) (hd : d ∈ L) (hn : ntd σ k d (n : Int)) : nv σ k e c n := by
  obtain ⟨hlt, L2, a1, a2, a3⟩ := h
  have hn2 : ∀ y, y ∈ L2 → y ≠ -4 := fun y hy => by have := (a2 y hy).1; omega
  have e1 : L = L2 := ach_inj L L2 _ hL4 hn2 hL a1
  subst e1
  obtain ⟨u1, ec, u2, u3⟩ := a2 d hd
  obtain ⟨x, x1, x2, x3⟩ := sn_ntd k d ec u3 (by omega) hn
  exact a3 h6 n ⟨x, by omega, by omega, x3⟩ c hc
theorem sn_kid {σ : e3_H} {k : Nat} {q e c : Int} {L : List Int} (h : sn σ (k + 1) q e) (hq : 0 ≤ q) (hL : ach σ (σ 51 q) L) (hL4 : ∀ y, y ∈ L → y ≠ -4) (hc : c ∈ L) : ∃ ec : Int, sn σ k c ec := by
  obtain ⟨hlt, L2, a1, a2, a3⟩ := h
  have hn2 : ∀ y, y ∈ L2 → y ≠ -4 := fun y hy => by have := (a2 y hy).1; omega
  have e1 : L = L2 := ach_inj L L2 _ hL4 hn2 hL a1
  subst e1
  obtain ⟨_, ec, _, u3⟩ := a2 c hc
  exact ⟨ec, u3⟩
section NMF
variable {σ M : e3_H} {k : Int}
theorem nmf_no : ∀ (V : List (Int × Int)) (B : Int → Int), (∀ p, p ∈ V → ¬ (σ 53 p.1 = k ∨ σ 54 p.1 = k)) → nmf σ M V B k = B k := by
  intro V
  induction V with
  | nil => intro B _; rfl
  | cons r V ih =>
    intro B hn
    show nmf σ M V (nm1 σ M r B) k = B k
    rw [ih _ (fun p hp => hn p (List.mem_cons_of_mem _ hp))]
    have := hn r (List.mem_cons_self ..)
    show (if σ 54 r.1 = k then vt M r.2 else if σ 53 r.1 = k then vt M r.2 else B k) = B k
    rw [if_neg (fun y => this (Or.inr y)), if_neg (fun y => this (Or.inl y))]
theorem nmf_ix : ∀ (V : List (Int × Int)) (B C : Int → Int), (∃ p, p ∈ V ∧ (σ 53 p.1 = k ∨ σ 54 p.1 = k)) → nmf σ M V B k = nmf σ M V C k := by
  intro V
  induction V with
  | nil => intro B C h; obtain ⟨p, hp, _⟩ := h; exact absurd hp (List.not_mem_nil)
  | cons r V ih =>
    intro B C h
    show nmf σ M V (nm1 σ M r B) k = nmf σ M V (nm1 σ M r C) k
    by_cases z : ∃ p, p ∈ V ∧ (σ 53 p.1 = k ∨ σ 54 p.1 = k)
    · exact ih _ _ z
    · have hr : σ 53 r.1 = k ∨ σ 54 r.1 = k := by
        obtain ⟨p, p1, p2⟩ := h
        rcases List.mem_cons.mp p1 with y | y
        · rw [← y]; exact p2
        · exact absurd ⟨p, y, p2⟩ z
      have no : ∀ p, p ∈ V → ¬ (σ 53 p.1 = k ∨ σ 54 p.1 = k) := fun p hp y => z ⟨p, hp, y⟩
      rw [nmf_no V _ no, nmf_no V _ no]
      show (if σ 54 r.1 = k then vt M r.2 else if σ 53 r.1 = k then vt M r.2 else B k) = (if σ 54 r.1 = k then vt M r.2 else if σ 53 r.1 = k then vt M r.2 else C k)
      by_cases y : σ 54 r.1 = k
      · rw [if_pos y, if_pos y]
      · rw [if_neg y, if_neg y, if_pos (hr.resolve_right y), if_pos (hr.resolve_right y)]
theorem nmf_pt {V : List (Int × Int)} {B C : Int → Int} (h : B k = C k) : nmf σ M V B k = nmf σ M V C k := by
  by_cases z : ∃ p, p ∈ V ∧ (σ 53 p.1 = k ∨ σ 54 p.1 = k)
  · exact nmf_ix V B C z
  · rw [nmf_no V B (fun p hp y => z ⟨p, hp, y⟩), nmf_no V C (fun p hp y => z ⟨p, hp, y⟩), h]
end NMF
/-- a way leads to one list of visits alone -/
theorem alt_un {σ : e3_H} : ∀ (A A' : List Int) (c c' : Int) (B B' : List Int) (w : Int), A ++ c :: B = A' ++ c' :: B' → (∀ y, y ∈ A ++ c :: B → 1 ≤ σ 55 y) → ws σ A ≤ w → w - ws σ A < σ 55 c → ws σ A' ≤ w → w - ws σ A' < σ 55 c' → A = A' ∧ c = c' := by
  intro A
  induction A with
  | nil =>
    intro A' c c' B B' w e h1 h2 h3 h4 h5
    cases A' with
    | nil => exact ⟨rfl, (List.cons.inj e).1⟩
    | cons d A' =>
      have e : c :: B = d :: (A' ++ c' :: B') := e
      obtain ⟨e1, e2⟩ := List.cons.inj e
      have hp := ws_0 A' (fun y hy => h1 y (by show y ∈ c :: B; rw [e2]; exact List.mem_cons_of_mem _ (List.mem_append_left _ hy)))
      have h3 : w - 0 < σ 55 c := h3
      have h4 : σ 55 d + ws σ A' ≤ w := h4
      rw [e1] at h3
      omega
  | cons d A ih =>
    intro A' c c' B B' w e h1 h2 h3 h4 h5
    have h2 : σ 55 d + ws σ A ≤ w := h2
    have h3 : w - (σ 55 d + ws σ A) < σ 55 c := h3
    cases A' with
    | nil =>
      have e : d :: (A ++ c :: B) = c' :: B' := e
      obtain ⟨e1, e2⟩ := List.cons.inj e
      have hp := ws_0 A (fun y hy => h1 y (by show y ∈ d :: (A ++ c :: B); exact List.mem_cons_of_mem _ (List.mem_append_left _ hy)))
      have h5 : w - 0 < σ 55 c' := h5
      rw [← e1] at h5
      omega
    | cons d' A' =>
      have e : d :: (A ++ c :: B) = d' :: (A' ++ c' :: B') := e
      obtain ⟨e1, e2⟩ := List.cons.inj e
      subst e1
      have h4 : σ 55 d + ws σ A' ≤ w := h4
      have h5 : w - (σ 55 d + ws σ A') < σ 55 c' := h5
      obtain ⟨r1, r2⟩ := ih A' c c' B B' (w - σ 55 d) e2 (fun y hy => h1 y (by show y ∈ d :: (A ++ c :: B); exact List.mem_cons_of_mem _ hy)) (by omega) (by omega) (by omega) (by omega)
      exact ⟨by rw [r1], r2⟩
theorem lyC_un {R : Int → Int → Int → List (Int × Int) → Prop} {σ : e3_H} : ∀ (L : List Int) (w x : Int) (V V' : List (Int × Int)), (∀ c, c ∈ L → ∀ w x V V', R c w x V → R c w x V' → V = V') → lyC R σ L w x V → lyC R σ L w x V' → V = V' := by
  intro L
  induction L with
  | nil =>
    intro w x V V' _ h h'
    have h : V = [] := h
    have h' : V' = [] := h'
    rw [h, h']
  | cons c l ih =>
    intro w x V V' hR h h'
    obtain ⟨V1, V2, e, v1, v2⟩ := h
    obtain ⟨U1, U2, e', u1, u2⟩ := h'
    rw [e, e', hR c (List.mem_cons_self ..) _ _ V1 U1 v1 u1, ih _ _ V2 U2 (fun d hd => hR d (List.mem_cons_of_mem _ hd)) v2 u2]
theorem lyV_uq {σ : e3_H} {lo hi : Int} (h55 : ∀ y : Int, lo ≤ y → y < hi → 1 ≤ σ 55 y) (h0 : 0 ≤ lo) : ∀ (k : Nat) (q w x : Int) (V V' : List (Int × Int)), wt σ k hi q → lo ≤ q → lyV σ k q w x V → lyV σ k q w x V' → V = V' := by
  intro k
  induction k with
  | zero => intro q w x V V' h; exact h.elim
  | succ k ih =>
    intro q w x V V' ht hq h h'
    obtain ⟨L, V1, ⟨a1, a2⟩, e, h⟩ := h
    obtain ⟨L', V1', ⟨a1', a2'⟩, e', h'⟩ := h'
    obtain ⟨L2, b1, b2, _⟩ := ht
    have e2 : ∀ y, y ∈ L2 → y ≠ -4 := fun y hy => by have := (b2 y hy).1; omega
    have hLL : L = L2 := ach_inj L L2 _ a2 e2 a1 b1
    have hLL' : L' = L := ach_inj L' L _ a2' a2 a1' a1
    subst hLL
    subst hLL'
    have hc : ∀ c, c ∈ L' → wt σ k hi c ∧ lo ≤ c ∧ 1 ≤ σ 55 c := fun c hm => by
      obtain ⟨c1, c2, c3⟩ := b2 c hm
      exact ⟨c3, by omega, h55 c (by omega) c2⟩
    rw [e, e']
    rcases h with ⟨h6, A, c, B, eA, h1, h2, v⟩ | ⟨h6, _, _, _, v⟩
    · rcases h' with ⟨_, A', c', B', eA', h1', h2', v'⟩ | ⟨h6', _⟩
      · obtain ⟨r1, r2⟩ := alt_un (σ := σ) A A' c c' B B' w (eA.symm.trans eA') (fun y hy => (hc y (by rw [eA]; exact hy)).2.2) h1 h2 h1' h2'
        subst r1
        subst r2
        have hm := hc c (by rw [eA]; exact List.mem_append_right _ (List.mem_cons_self ..))
        rw [ih c _ x V1 V1' hm.1 hm.2.1 v v']
      · exact absurd h6 h6'
    · rcases h' with ⟨h6', _⟩ | ⟨_, _, _, _, v'⟩
      · exact absurd h6' h6
      · rw [lyC_un L' _ _ V1 V1' (fun c hm w x V V' u u' => ih c w x V V' (hc c hm).1 (hc c hm).2.1 u u') v v']
/-- the least way that fits -/
def lst (R : Int → List (Int × Int) → Prop) (σ M : e3_H) (W w : Int) (V : List (Int × Int)) : Prop := (0 ≤ w ∧ w < W) ∧ R w V ∧ afit σ M V ∧ ∀ (w' : Int) (V' : List (Int × Int)), 0 ≤ w' → w' < w → R w' V' → ¬ afit σ M V'
/-- no way fits -/
def nof (R : Int → List (Int × Int) → Prop) (σ M : e3_H) (W : Int) : Prop := ∀ (w' : Int) (V' : List (Int × Int)), 0 ≤ w' → w' < W → R w' V' → ¬ afit σ M V'
theorem afit_app {σ M : e3_H} {A B : List (Int × Int)} (h1 : afit σ M A) (h2 : afit σ M B) : afit σ M (A ++ B) := fun p hp => by
  rcases List.mem_append.mp hp with z | z
  · exact h1 p z
  · exact h2 p z
theorem lst_C {R : Int → Int → Int → List (Int × Int) → Prop} {σ M : e3_H} {c : Int} {l : List Int} {x W w1 w2 : Int} {V1 V2 : List (Int × Int)} (h1 : lst (fun w V => R c w x V) σ M W w1 V1) (h2 : lst (fun w V => lyC R σ l w (x + 1) V) σ M (wp σ l) w2 V2) : lst (fun w V => lyC R σ (c :: l) w x V) σ M (W * wp σ l) (w1 * wp σ l + w2) (V1 ++ V2) := by
  obtain ⟨a1, a2, a3, a4⟩ := h1
  obtain ⟨b1, b2, b3, b4⟩ := h2
  obtain ⟨m1, m2⟩ := mnC (M := M) (by omega) a2 a4 b2 b4 b1
  have h3 : (w1 + 1) * wp σ l ≤ W * wp σ l := Int.mul_le_mul_of_nonneg_right (by omega) (by omega)
  have h4 : 0 ≤ w1 * wp σ l := Int.mul_nonneg a1.1 (by omega)
  rw [Int.add_mul, Int.one_mul] at h3
  exact ⟨⟨by omega, by omega⟩, m1, afit_app a3 b3, m2⟩
/-- fits, as a Bool -/
def fitb (σ M : e3_H) (p : Int × Int) : Bool := decide (σ 46 p.1 = 0) || (decide (σ 46 p.1 = 6) || hld σ p.1 (M 28 (vt M p.2)))
def afb (σ M : e3_H) (V : List (Int × Int)) : Bool := V.all (fitb σ M)
theorem afb_iff {σ M : e3_H} {V : List (Int × Int)} : afb σ M V = true ↔ afit σ M V := by
  unfold afb
  rw [List.all_eq_true]
  have e : ∀ p : Int × Int, fitb σ M p = true ↔ fitv σ M p.1 (vt M p.2) := fun p => by
    unfold fitb fitv
    rw [Bool.or_eq_true, Bool.or_eq_true, decide_eq_true_iff, decide_eq_true_iff]
  exact ⟨fun h p hp => (e p).mp (h p hp), fun h p hp => (e p).mpr (h p hp)⟩
/-- the least way that fits, of n ways from w on -/
def lw (σ M : e3_H) (V : Int → List (Int × Int)) : Nat → Int → Option Int
  | 0, _ => none
  | n + 1, w => if afb σ M (V w) = true then some w else lw σ M V n (w + 1)
theorem lw_some {σ M : e3_H} {V : Int → List (Int × Int)} {u : Int} (hu : afit σ M (V u)) : ∀ (n : Nat) (w : Int), w ≤ u → u < w + (n : Int) → (∀ w' : Int, w ≤ w' → w' < u → ¬ afit σ M (V w')) → lw σ M V n w = some u := by
  intro n
  induction n with
  | zero => intro w h1 h2; omega
  | succ n ih =>
    intro w h1 h2 h3
    show (if afb σ M (V w) = true then some w else lw σ M V n (w + 1)) = some u
    by_cases z : w = u
    · rw [z, if_pos (afb_iff.mpr hu)]
    · rw [if_neg (fun y => h3 w (Int.le_refl _) (by omega) (afb_iff.mp y))]
      exact ih (w + 1) (by omega) (by omega) (fun w' y1 y2 => h3 w' (by omega) y2)
theorem lw_none {σ M : e3_H} {V : Int → List (Int × Int)} : ∀ (n : Nat) (w : Int), (∀ w' : Int, w ≤ w' → w' < w + (n : Int) → ¬ afit σ M (V w')) → lw σ M V n w = none := by
  intro n
  induction n with
  | zero => intro w _; rfl
  | succ n ih =>
    intro w h
    show (if afb σ M (V w) = true then some w else lw σ M V n (w + 1)) = none
    rw [if_neg (fun y => h w (Int.le_refl _) (by omega) (afb_iff.mp y))]
    exact ih (w + 1) (fun w' y1 y2 => h w' (by omega) (by omega))
theorem lw_inv {σ M : e3_H} {V : Int → List (Int × Int)} {u : Int} : ∀ (n : Nat) (w : Int), lw σ M V n w = some u → (w ≤ u ∧ u < w + (n : Int)) ∧ afit σ M (V u) := by
  intro n
  induction n with
  | zero => intro w h; cases h
  | succ n ih =>
    intro w h
    have h : (if afb σ M (V w) = true then some w else lw σ M V n (w + 1)) = some u := h
    by_cases z : afb σ M (V w) = true
    · rw [if_pos z] at h
      cases h
      exact ⟨by omega, afb_iff.mp z⟩
    · rw [if_neg z] at h
      obtain ⟨h1, h2⟩ := ih (w + 1) h
      exact ⟨by omega, h2⟩
