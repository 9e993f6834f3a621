/-- below a FUNCTION nothing changes -/
def c_B (fu : Int) (H : e3_H) (G : e3_G) (K : e3_H) (G2 : e3_G) : Prop := (∃ E, G2 = G ++ E) ∧ (∀ a k : Int, a < fu → a ≠ 3 → a ≠ 14 → K a k = H a k) ∧ (∀ k : Int, k < 6 → K 3 k = H 3 k) ∧ ∀ k : Int, k ≠ 4 → k ≠ 5 → k ≠ 7 → K 14 k = H 14 k
def c_bB (fu q : Int) (H : e3_H) (G : e3_G) (K : e3_H) (G2 : e3_G) : Prop := K 14 4 ≠ 0 ∧ K 14 5 = q ∧ c_B fu H G K G2
/-- a rule among the rules of a FUNCTION -/
def c_r1 (fu f : Int) (σ g H : e3_H) (G : e3_G) (k : Nat) : Prop := fu < H (H fu 4) k ∧ ∃ lo hi : Int, (0 ≤ lo ∧ lo ≤ hi ∧ hi ≤ σ 40 16) ∧ c_rd σ g H G (H fu 7) (16 * f + k) k lo hi (H (H fu 4) k) ∧ ∀ q : Int, lo ≤ q → q < hi → fu < g 0 q
/-- rows and tree of a FUNCTION, as they are made -/
def c_fk (fu : Int) (H : e3_H) (G : e3_G) : Prop := (H fu 5 = 0 ∧ H fu 6 = fu + 3 ∧ g_at G (fu + 3) (6, 40)) ∧ (H fu 10 = fu + 6 ∧ g_at G (fu + 6) (105, 10)) ∧ (H (fu + 6) 4 = fu + 7 ∧ g_at G (fu + 7) (0, 120)) ∧ (H (fu + 6) 5 = fu + 8 ∧ g_at G (fu + 8) (0, 120)) ∧ (H (fu + 6) 6 = fu + 9 ∧ g_at G (fu + 9) (0, 120)) ∧ (H (fu + 6) 7 = fu + 10 ∧ g_at G (fu + 10) (0, 120)) ∧ (H (fu + 6) 8 = fu + 11 ∧ g_at G (fu + 11) (0, 120)) ∧ (H (fu + 6) 9 = fu + 12 ∧ g_at G (fu + 12) (1, 120))
theorem c_fk_eq {fu : Int} {H K : e3_H} {G E : e3_G} (h : c_fk fu H G) (e5 : K fu 5 = H fu 5) (e6 : K fu 6 = H fu 6) (e10 : K fu 10 = H fu 10) (et : ∀ k : Int, K (fu + 6) k = H (fu + 6) k) : c_fk fu K (G ++ E) := by
  obtain ⟨⟨a1, a2, a3⟩, ⟨b1, b2⟩, ⟨c1, c2⟩, ⟨d1, d2⟩, ⟨f1, f2⟩, ⟨g1, g2⟩, ⟨i1, i2⟩, ⟨j1, j2⟩⟩ := h
  exact ⟨⟨by rw [e5]; exact a1, by rw [e6]; exact a2, ga_app a3⟩, ⟨by rw [e10]; exact b1, ga_app b2⟩, ⟨by rw [et]; exact c1, ga_app c2⟩, ⟨by rw [et]; exact d1, ga_app d2⟩, ⟨by rw [et]; exact f1, ga_app f2⟩, ⟨by rw [et]; exact g1, ga_app g2⟩, ⟨by rw [et]; exact i1, ga_app i2⟩, ⟨by rw [et]; exact j1, ga_app j2⟩⟩
/-- a FUNCTION while its rules are read -/
def c_fs (m : Nat) (fu f : Int) (σ g H : e3_H) (G : e3_G) : Prop := c_kd σ m H ∧ c_pl H G fu (g 3) ∧ H 14 6 = fu ∧ c_fc fu (σ 68 f).toNat (fun c => σ 69 (3 * f + c)) g H G ∧ (H fu 0 = σ 67 f ∧ H fu 3 = σ 70 f ∧ (139 ≤ H fu 4 ∧ g_at G (H fu 4) (5, 16))) ∧ (fu < H fu 2 ∧ fu < H fu 4 ∧ fu < H fu 8 ∧ fu < H fu 9) ∧ (∀ k : Nat, (k : Int) < σ 70 f → c_r1 fu f σ g H G k) ∧ c_fk fu H G
section CFS
variable {t : Int → Int} {n s m : Nat} {fu : Int}
theorem c_B_rf (fu : Int) (H : e3_H) (G : e3_G) : c_B fu H G H G := ⟨⟨[], by rw [List.append_nil]⟩, fun _ _ _ _ _ => rfl, fun _ _ => rfl, fun _ _ _ _ => rfl⟩
theorem c_B_tr {H K K2 : e3_H} {G G2 G3 : e3_G} (h : c_B fu H G K G2) (h2 : c_B fu K G2 K2 G3) : c_B fu H G K2 G3 := by
  obtain ⟨⟨E1, x1⟩, a2, a3, a4⟩ := h
  obtain ⟨⟨E2, y1⟩, b2, b3, b4⟩ := h2
  exact ⟨⟨E1 ++ E2, by rw [y1, x1, List.append_assoc]⟩, fun a k z1 z2 z3 => (b2 a k z1 z2 z3).trans (a2 a k z1 z2 z3), fun k hk => (b3 k hk).trans (a3 k hk), fun k k4 k5 k7 => (b4 k k4 k5 k7).trans (a4 k k4 k5 k7)⟩
theorem c_F_B {H K : e3_H} {G G2 : e3_G} (h : c_F fu H G K G2) (hl : fu < G.length) (h8 : fu < H fu 8) (h9 : fu < H fu 9) : c_B fu H G K G2 := ⟨h.1, fun a k z1 z2 z3 => h.2.1 a k (by omega) z2 z3 (by omega) (by omega) (by omega), h.2.2.1, h.2.2.2.1⟩
theorem c_B_f {H K K2 : e3_H} {G G2 : e3_G} {pl : Int} (h : c_B fu H G K G2) (h2 : c_flt pl K K2) : c_bB fu pl H G K2 G2 := by
  obtain ⟨a1, a2, a3, a4⟩ := h
  obtain ⟨f1, f2, f3, f4⟩ := h2
  have at2 : ∀ a k : Int, a ≠ 14 → K2 a k = K a k := fun a k ha => f4 a k (by simp only [List.mem_cons, List.not_mem_nil, or_false]; exact ha)
  exact ⟨f1, f2, a1, fun a k z1 z2 z3 => by rw [at2 _ _ z3]; exact a2 a k z1 z2 z3, fun k hk => by rw [at2 _ _ (by decide)]; exact a3 k hk, fun k k4 k5 k7 => by rw [f3 k k4 k5]; exact a4 k k4 k5 k7⟩
theorem c_B_C {H K K2 : e3_H} {G G2 : e3_G} (h : c_B fu H G K G2) (h2 : x_C K K2) : c_B fu H G K2 G2 := by
  obtain ⟨a1, a2, a3, a4⟩ := h
  have at2 : ∀ a k : Int, a ≠ 3 → K2 a k = K a k := fun a k ha => h2.1 a k (by simp only [List.mem_cons, List.not_mem_nil, or_false]; exact ha)
  exact ⟨a1, fun a k z1 z2 z3 => by rw [at2 _ _ z2]; exact a2 a k z1 z2 z3, fun k hk => by rw [h2.2 k hk]; exact a3 k hk, fun k k4 k5 k7 => by rw [at2 _ _ (by decide)]; exact a4 k k4 k5 k7⟩
/-- a rule's object and arrays are none of the FUNCTION's -/
theorem c_sk_pl {a : Int} {cx : Int → Int} {H : e3_H} {G : e3_G} (h : c_sk a H G) (hp : c_pl H G fu cx) : ∀ x : Int, a ≤ x → x ≤ a + 6 → x < G.length ∧ x ≠ fu ∧ x ≠ H fu 8 ∧ x ≠ H fu 9 ∧ ∀ b : Int, g_at G b (5, 16) → x ≠ b := by
  obtain ⟨s1, s2, ⟨s3, s3b⟩, ⟨s4, s4b⟩, ⟨s5, s5b⟩, ⟨s6, s6b⟩, ⟨s7, s7b⟩, ⟨s8, s8b⟩⟩ := h
  obtain ⟨q1, q2, L, q3, q4, q5, q6, _⟩ := hp
  intro x x0 x6
  have c1 : ∃ c n' : Nat, g_at G x (c, n') ∧ (c ≠ 0 ∨ n' < 16) ∧ c ≠ 108 ∧ c ≠ 5 := by
    have hj : x = a ∨ x = a + 1 ∨ x = a + 2 ∨ x = a + 3 ∨ x = a + 4 ∨ x = a + 5 ∨ x = a + 6 := by omega
    rcases hj with hj | hj | hj | hj | hj | hj | hj <;> subst hj
    · exact ⟨109, 19, s2, by omega, by omega, by omega⟩
    · exact ⟨1, 8, s3b, by omega, by omega, by omega⟩
    · exact ⟨0, 2, s4b, by omega, by omega, by omega⟩
    · exact ⟨0, 4, s5b, by omega, by omega, by omega⟩
    · exact ⟨0, 4, s6b, by omega, by omega, by omega⟩
    · exact ⟨0, 3, s7b, by omega, by omega, by omega⟩
    · exact ⟨0, 3, s8b, by omega, by omega, by omega⟩
  obtain ⟨c, n', h1, h2, h3, h4⟩ := c1
  refine ⟨ga_lt h1, ga_ne h1 q2 h3, ?_, ?_, fun b hb => ga_ne h1 hb h4⟩
  · intro z
    rw [z] at h1
    have := Prod.mk.inj (ga_eq h1 q3.2)
    omega
  · intro z
    rw [z] at h1
    have := Prod.mk.inj (ga_eq h1 q4.2)
    omega
/-- a rule stays when another one has been read -/
theorem c_r1_keep {f : Int} {σ σ2 g g2 H K : e3_H} {G G2 : e3_G} {k : Nat} (h : c_r1 fu f σ g H G k) (hp : c_pl H G fu (g 3)) (h4 : g_at G (H fu 4) (5, 16)) (hG : ∃ E, G2 = G ++ E) (hσ : ∀ x y : Int, ((46 ≤ x ∧ x ≤ 55 ∧ y < σ 40 16) ∨ r_own (16 * f + k) x y) → σ2 x y = σ x y) (h16 : σ 40 16 ≤ σ2 40 16) (hg : c_g g g2 (σ 40 16) (H fu 7)) (h7 : H fu 7 ≤ K fu 7) (hK4 : K fu 4 = H fu 4) (hKk : K (H fu 4) k = H (H fu 4) k) (hK : ∀ x y : Int, x < G.length → 139 ≤ x → x ≠ fu → x ≠ H fu 8 → x ≠ H fu 9 → x ≠ H fu 4 → K x y = H x y) : c_r1 fu f σ2 g2 K G2 k := by
  obtain ⟨h1, lo, hi, ⟨h2, h2b, h2c⟩, h3, h5⟩ := h
  unfold c_r1
  rw [hK4, hKk]
  have hsk := h3.1.1
  refine ⟨h1, lo, hi, ⟨h2, h2b, by omega⟩, c_rd_keep h3 hG (fun x y hxy => hσ x y (by rcases hxy with z | z; exact Or.inl ⟨z.1, z.2.1, by omega⟩; exact Or.inr z)) (fun x y x0 x1 hy => hg.1 x y x0 x1 (by omega)) (fun y y0 y1 => hg.2 y y0 y1) h7 (fun x y x0 x1 => ?_) (fun q y q0 q1 => ?_), fun q q0 q1 => by rw [hg.1 0 q (by omega) (by omega) (by omega)]; exact h5 q q0 q1⟩
  · obtain ⟨z1, z2, z3, z4, z5⟩ := c_sk_pl hsk hp x x0 x1
    have := hsk.1
    exact hK x y z1 (by omega) z2 z3 z4 (z5 _ h4)
  · have hpt := (h3.2 q q0 q1).1
    obtain ⟨q1', q2, L, q3, q4, _⟩ := hp
    have := hpt.1
    exact hK _ y (ga_lt hpt.2.1) this (ga_ne hpt.2.1 q2 (by decide)) (ga_ne hpt.2.1 q3.2 (by decide)) (ga_ne hpt.2.1 q4.2 (by decide)) (ga_ne hpt.2.1 h4 (by decide))
end CFS
