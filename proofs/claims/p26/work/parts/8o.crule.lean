/-- a rule that was read, here and there -/
def c_ru (σ : e3_H) (r num : Int) (g H : e3_H) (G : e3_G) (lo hi a : Int) : Prop := c_sk a H G ∧ (H a 0 = num ∧ H a 1 = σ 73 r ∧ H a 2 = g 0 (σ 72 r) ∧ (lo ≤ σ 72 r ∧ σ 72 r < hi ∧ g 1 (σ 72 r) = 1 ∧ g 2 (σ 72 r) = 1)) ∧ c_wy (H a 3) (σ 74 r) ∧ (H a 4 = σ 56 r ∧ (0 ≤ σ 56 r ∧ σ 56 r ≤ 8) ∧ (∀ k : Nat, (k : Int) < σ 56 r → H (a + 1) k = σ 57 (8 * r + k)) ∧ a_ds (fun k => σ 57 (8 * r + k)) (σ 56 r).toNat) ∧ H a 6 = lb (fun k => if (k : Int) < σ 56 r then σ 58 (8 * r + k) + 1 else 0) 8 ∧ c_gd σ r H a ∧ c_an σ r H a
def c_rd (σ g H : e3_H) (G : e3_G) (cnt r num lo hi a : Int) : Prop := c_ru σ r num g H G lo hi a ∧ ∀ q : Int, lo ≤ q → q < hi → c_pt σ r g H G cnt hi q
/-- what belongs to rule r -/
def r_own (r a k : Int) : Prop := ((a = 56 ∨ a = 72 ∨ a = 73 ∨ a = 74 ∨ (78 ≤ a ∧ a ≤ 83)) ∧ k = r) ∨ ((a = 57 ∨ a = 58) ∧ 8 * r ≤ k ∧ k < 8 * r + 8) ∨ ((a = 75 ∨ a = 76) ∧ 4 * r ≤ k ∧ k < 4 * r + 4) ∨ (a = 77 ∧ 2 * r ≤ k ∧ k < 2 * r + 2) ∨ ((a = 84 ∨ a = 85) ∧ 3 * r ≤ k ∧ k < 3 * r + 3)
theorem c_gd_R {σ R R2 : e3_H} {r ru : Int} (h : c_gd σ r R ru) (e7 : R2 ru 7 = R ru 7) (e : ∀ a k : Int, ru + 2 ≤ a → a ≤ ru + 4 → R2 a k = R a k) : c_gd σ r R2 ru := by
  obtain ⟨h1, h2⟩ := h
  refine ⟨by rw [e7]; exact h1, ?_⟩
  rcases h2 with h2 | ⟨h2, h3, h4⟩
  · exact Or.inl h2
  · exact Or.inr ⟨h2, c_sm_eq h3 (fun _ _ _ => rfl) rfl rfl (fun _ => rfl) (e _ _ (by omega) (by omega)) (fun a b hab => e a b (by omega) (by omega)), c_sm_eq h4 (fun _ _ _ => rfl) rfl rfl (fun _ => rfl) (e _ _ (by omega) (by omega)) (fun a b hab => e a b (by omega) (by omega))⟩
theorem c_an_R {σ R R2 : e3_H} {r ru : Int} (h : c_an σ r R ru) (e1 : ∀ k : Int, 11 ≤ k → k ≤ 15 → R2 ru k = R ru k) (e : ∀ a k : Int, ru + 5 ≤ a → a ≤ ru + 6 → R2 a k = R a k) : c_an σ r R2 ru := by
  obtain ⟨h1, h2⟩ := h
  refine ⟨by rw [e1 11 (by decide) (by decide)]; exact h1, ?_⟩
  rcases h2 with ⟨a, b⟩ | ⟨a, b, c⟩ | ⟨a, b, c, ⟨d1, d2, d3⟩⟩
  · exact Or.inl ⟨a, by rw [e1 12 (by decide) (by decide)]; exact b⟩
  · exact Or.inr (Or.inl ⟨a, by rw [e1 12 (by decide) (by decide)]; exact b, c⟩)
  · refine Or.inr (Or.inr ⟨a, by rw [e1 13 (by decide) (by decide)]; exact b, by rw [e1 14 (by decide) (by decide)]; exact c, ⟨by rw [e1 15 (by decide) (by decide)]; exact d1, d2, fun k k1 k2 => ?_⟩⟩)
    rw [e _ _ (by omega) (by omega), e _ _ (by omega) (by omega)]
    exact d3 k k1 k2
theorem c_tm_σ {σ σ2 R : e3_H} {r ru k : Int} (h8 : σ 56 r ≤ 8) (e : ∀ a k : Int, r_own r a k → σ2 a k = σ a k) (k0 : 0 ≤ k) (k4 : k < 4) (hk : c_tm σ r R ru k) : c_tm σ2 r R ru k := by
  have e75 : σ2 75 (4 * r + k) = σ 75 (4 * r + k) := e _ _ (by unfold r_own; omega)
  have e76 : σ2 76 (4 * r + k) = σ 76 (4 * r + k) := e _ _ (by unfold r_own; omega)
  have e56 : σ2 56 r = σ 56 r := e _ _ (by unfold r_own; omega)
  unfold c_tm
  rw [e75, e76, e56]
  rcases hk with ⟨x1, x2, x3, x4, x5⟩ | hk
  · refine Or.inl ⟨x1, x2, x3, x4, ?_⟩
    rw [e 58 _ (by unfold r_own; omega)]; exact x5
  · exact Or.inr hk
theorem c_sm_σ {σ σ2 R : e3_H} {r ru d : Int} (h8 : σ 56 r ≤ 8) (e : ∀ a k : Int, r_own r a k → σ2 a k = σ a k) (d0 : 0 ≤ d) (d2 : d < 2) (h : c_sm σ r R ru d) : c_sm σ2 r R ru d := by
  obtain ⟨a1, a2, a3⟩ := h
  have e77 : σ2 77 (2 * r + d) = σ 77 (2 * r + d) := e _ _ (by unfold r_own; omega)
  have e75 : σ2 75 (4 * r + (2 * d + 1)) = σ 75 (4 * r + (2 * d + 1)) := e _ _ (by unfold r_own; omega)
  refine ⟨c_tm_σ h8 e (by omega) (by omega) a1, by rw [e77]; exact a2, ?_⟩
  rw [e77, e75]
  rcases a3 with a3 | ⟨a3, a4⟩
  · exact Or.inl a3
  · exact Or.inr ⟨a3, c_tm_σ h8 e (by omega) (by omega) a4⟩
theorem c_gd_σ {σ σ2 R : e3_H} {r ru : Int} (h8 : σ 56 r ≤ 8) (h : c_gd σ r R ru) (e : ∀ a k : Int, r_own r a k → σ2 a k = σ a k) : c_gd σ2 r R ru := by
  obtain ⟨h1, h2⟩ := h
  have e78 : σ2 78 r = σ 78 r := e _ _ (by unfold r_own; omega)
  unfold c_gd
  rw [e78]
  refine ⟨h1, ?_⟩
  rcases h2 with h2 | ⟨h2, h3, h4⟩
  · exact Or.inl h2
  · exact Or.inr ⟨h2, c_sm_σ h8 e (by omega) (by omega) h3, c_sm_σ h8 e (by omega) (by omega) h4⟩
theorem c_an_σ {σ σ2 R : e3_H} {r ru : Int} (h8 : σ 56 r ≤ 8) (h : c_an σ r R ru) (e : ∀ a k : Int, r_own r a k → σ2 a k = σ a k) : c_an σ2 r R ru := by
  obtain ⟨h1, h2⟩ := h
  have e79 : σ2 79 r = σ 79 r := e _ _ (by unfold r_own; omega)
  have e80 : σ2 80 r = σ 80 r := e _ _ (by unfold r_own; omega)
  have e56 : σ2 56 r = σ 56 r := e _ _ (by unfold r_own; omega)
  have e81 : σ2 81 r = σ 81 r := e _ _ (by unfold r_own; omega)
  have e82 : σ2 82 r = σ 82 r := e _ _ (by unfold r_own; omega)
  have e83 : σ2 83 r = σ 83 r := e _ _ (by unfold r_own; omega)
  unfold c_an c_ar
  rw [e79, e80, e56, e81, e82, e83]
  refine ⟨h1, ?_⟩
  rcases h2 with h2 | ⟨a, b, c, d, x5⟩ | ⟨a, b, c, ⟨d1, d2, d3⟩⟩
  · exact Or.inl h2
  · refine Or.inr (Or.inl ⟨a, b, c, d, ?_⟩)
    rw [e 58 _ (by unfold r_own; omega)]; exact x5
  · refine Or.inr (Or.inr ⟨a, b, c, ⟨d1, d2, fun k k1 k2 => ?_⟩⟩)
    rw [e 84 _ (by unfold r_own; omega), e 85 _ (by unfold r_own; omega)]
    exact d3 k k1 k2
/-- rules that were read stay -/
theorem c_rd_keep {σ σ2 g g2 H K : e3_H} {G G2 : e3_G} {cnt cnt2 r num lo hi a : Int} (h : c_rd σ g H G cnt r num lo hi a) (hG : ∃ E, G2 = G ++ E) (hσ : ∀ x k : Int, (46 ≤ x ∧ x ≤ 55 ∧ lo ≤ k ∧ k < hi) ∨ r_own r x k → σ2 x k = σ x k) (hg : ∀ x k : Int, 0 ≤ x → x ≤ 2 → k < hi → g2 x k = g x k) (hg3 : ∀ k : Int, 0 ≤ k → k < cnt → g2 3 k = g 3 k) (hc : cnt ≤ cnt2) (hH : ∀ x k : Int, a ≤ x → x ≤ a + 6 → K x k = H x k) (hP : ∀ q k : Int, lo ≤ q → q < hi → K (g 0 q) k = H (g 0 q) k) : c_rd σ2 g2 K G2 cnt2 r num lo hi a := by
  obtain ⟨⟨h1, ⟨h2, h3, h4, h5, h6, h7, h8⟩, h9, ⟨h10, h11, h12, h12b⟩, h13, h14, h15⟩, hq⟩ := h
  have er : ∀ k, K a k = H a k := fun k => hH a k (by omega) (by omega)
  have o : ∀ x k : Int, r_own r x k → σ2 x k = σ x k := fun x k hx => hσ x k (Or.inr hx)
  have e72 : σ2 72 r = σ 72 r := o _ _ (by unfold r_own; omega)
  have e56 : σ2 56 r = σ 56 r := o _ _ (by unfold r_own; omega)
  refine ⟨⟨?_, ⟨by rw [er]; exact h2, by rw [er, o 73 r (by unfold r_own; omega)]; exact h3, by rw [er, e72, hg 0 _ (by omega) (by omega) h6]; exact h4, by rw [e72, hg 1 _ (by omega) (by omega) h6, hg 2 _ (by omega) (by omega) h6]; exact ⟨h5, h6, h7, h8⟩⟩, by rw [er, o 74 r (by unfold r_own; omega)]; exact h9, ⟨by rw [er, e56]; exact h10, by rw [e56]; exact h11, fun k hk => ?_, ?_⟩, ?_, ?_, ?_⟩, fun q q0 q1 => ?_⟩
  · obtain ⟨E, rfl⟩ := hG
    obtain ⟨s1, s2, ⟨s3, s3b⟩, ⟨s4, s4b⟩, ⟨s5, s5b⟩, ⟨s6, s6b⟩, ⟨s7, s7b⟩, ⟨s8, s8b⟩⟩ := h1
    exact ⟨s1, ga_app s2, ⟨by rw [er]; exact s3, ga_app s3b⟩, ⟨by rw [er]; exact s4, ga_app s4b⟩, ⟨by rw [er]; exact s5, ga_app s5b⟩, ⟨by rw [er]; exact s6, ga_app s6b⟩, ⟨by rw [er]; exact s7, ga_app s7b⟩, ⟨by rw [er]; exact s8, ga_app s8b⟩⟩
  · rw [e56] at hk
    rw [hH _ _ (by omega) (by omega), o 57 _ (by unfold r_own; omega)]; exact h12 k hk
  · rw [e56]
    intro x y hx hy he
    simp only at he
    rw [o 57 _ (by unfold r_own; omega), o 57 _ (by unfold r_own; omega)] at he
    exact h12b x y hx hy he
  · rw [er, h13]
    refine lb_congr (fun k hk => ?_)
    rw [e56]
    by_cases hz : (k : Int) < σ 56 r
    · rw [if_pos hz, if_pos hz, o 58 _ (by unfold r_own; omega)]
    · rw [if_neg hz, if_neg hz]
  · exact c_gd_R (c_gd_σ h11.2 h14 o) (er 7) (fun x k x1 x2 => hH x k (by omega) (by omega))
  · exact c_an_R (c_an_σ h11.2 h15 o) (fun k _ _ => er k) (fun x k x1 x2 => hH x k (by omega) (by omega))
  · exact c_pt_keep (hq q q0 q1) hG (fun x x1 x2 => hσ x q (Or.inl ⟨x1, x2, q0, q1⟩)) (fun k k0 k1 => o 57 _ (by unfold r_own; omega)) (by rw [e56]; omega) hg hg3 hc q1 (by omega) (fun k => hP q k q0 q1)
