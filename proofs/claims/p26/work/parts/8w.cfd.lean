/-- a FUNCTION that was read -/
def c_fd (f : Int) (σ g H : e3_H) (G : e3_G) (fu : Int) : Prop := ∃ cx : Int → Int, c_pl H G fu cx ∧ c_fc fu (σ 68 f).toNat (fun c => σ 69 (3 * f + c)) (g_3 g cx) H G ∧ (H fu 0 = σ 67 f ∧ H fu 3 = σ 70 f ∧ (139 ≤ H fu 4 ∧ g_at G (H fu 4) (5, 16))) ∧ (fu < H fu 2 ∧ fu < H fu 4 ∧ fu < H fu 8 ∧ fu < H fu 9) ∧ (∀ k : Nat, (k : Int) < σ 70 f → c_r1 fu f σ (g_3 g cx) H G k) ∧ c_fk fu H G
/-- all FUNCTIONS that were read -/
def c_FS (nf : Nat) (σ g H : e3_H) (G : e3_G) : Prop := c_fl nf σ H G ∧ ∀ f : Nat, f < nf → c_fd f σ g H G (H 15 f)
theorem g_3_id (g : e3_H) : g_3 g (g 3) = g := by
  funext b k
  unfold g_3
  by_cases hb : b = 3
  · rw [if_pos hb, hb]
  · rw [if_neg hb]
theorem c_fs_fd {m : Nat} {fu f : Int} {σ g H : e3_H} {G : e3_G} (h : c_fs m fu f σ g H G) : c_fd f σ g H G fu := by
  obtain ⟨h1, h2, h3, h4, h5, h6, h7, h8⟩ := h
  refine ⟨g 3, h2, ?_, h5, h6, ?_, h8⟩
  · rw [g_3_id]; exact h4
  · rw [g_3_id]; exact h7
theorem c_fd_keep {fu f : Int} {σ σ2 g g2 H K : e3_H} {G G2 : e3_G} (hf : 0 ≤ f ∧ f < 12) (h70 : σ 70 f ≤ 16) (h : c_fd f σ g H G fu) (hG : ∃ E, G2 = G ++ E) (hK : ∀ a k : Int, a < G.length → a ≠ 3 → a ≠ 14 → a ≠ 15 → K a k = H a k) (h16 : σ 40 16 ≤ σ2 40 16) (hσ : ∀ a k : Int, ((a = 67 ∨ a = 68 ∨ a = 70) ∧ k = f) ∨ (a = 69 ∧ 3 * f ≤ k ∧ k < 3 * f + 3) ∨ (46 ≤ a ∧ a ≤ 55 ∧ k < σ 40 16) ∨ (∃ k' : Nat, k' < 16 ∧ r_own (16 * f + k') a k) → σ2 a k = σ a k) (hg : ∀ a k : Int, 0 ≤ a → a ≤ 2 → k < σ 40 16 → g2 a k = g a k) : c_fd f σ2 g2 K G2 fu := by
  obtain ⟨cx, h2, ⟨c1, ⟨c2, c3⟩, c4, c5⟩, ⟨s5, s6, s7, s7b⟩, ⟨s8, s9, s10, s11⟩, s12, s13⟩ := h
  have f139 := h2.1
  have hful := ga_lt h2.2.1
  have q3 : (139 ≤ H fu 8 ∧ H fu 8 < G.length) ∧ (139 ≤ H fu 9 ∧ H fu 9 < G.length) := by obtain ⟨_, _, L, y3, y4, _⟩ := h2; exact ⟨⟨y3.1, ga_lt y3.2⟩, ⟨y4.1, ga_lt y4.2⟩⟩
  have kf : ∀ k, K fu k = H fu k := fun k => hK fu k hful (by omega) (by omega) (by omega)
  have e67 : σ2 67 f = σ 67 f := hσ _ _ (Or.inl ⟨Or.inl rfl, rfl⟩)
  have e68 : σ2 68 f = σ 68 f := hσ _ _ (Or.inl ⟨Or.inr (Or.inl rfl), rfl⟩)
  have e70 : σ2 70 f = σ 70 f := hσ _ _ (Or.inl ⟨Or.inr (Or.inr rfl), rfl⟩)
  obtain ⟨E, eG⟩ := id hG
  refine ⟨cx, ?_, ⟨by rw [kf, e68]; exact c1, by rw [kf]; exact ⟨c2, by rw [eG]; exact ga_app c3⟩, by rw [e68]; exact c4, fun c hc => ?_⟩, by rw [kf, kf, kf, e67, e70]; exact ⟨s5, s6, s7, by rw [eG]; exact ga_app s7b⟩, by rw [kf, kf, kf, kf]; exact ⟨s8, s9, s10, s11⟩, fun k hk => ?_, ?_⟩
  · rw [eG]
    exact c_pl_eq h2 (fun a k ha => by
      rcases ha with z | z | z
      · rw [z]; exact kf k
      · rw [z]; exact hK _ k (by omega) (by omega) (by omega) (by omega)
      · rw [z]; exact hK _ k (by omega) (by omega) (by omega) (by omega))
  · rw [e68] at hc
    obtain ⟨x1, x2, x3⟩ := c5 c hc
    rw [kf, kf, hK _ _ (ga_lt c3) (by omega) (by omega) (by omega)]
    refine ⟨x1.trans (hσ 69 (3 * f + c) (Or.inr (Or.inl ⟨rfl, by omega, by omega⟩))).symm, x2, ?_⟩
    rw [g_3_3] at x3 ⊢
    exact x3
  · rw [e70] at hk
    refine c_r1_keep (s12 k hk) (by rw [g_3_3]; exact h2) s7b hG (fun x y hxy => hσ x y ?_) h16 ⟨fun a y a0 a1 hy => ?_, fun y _ _ => by rw [g_3_3, g_3_3]⟩ (by rw [kf]; exact Int.le_refl _) (kf 4) (hK _ _ (ga_lt s7b) (by omega) (by omega) (by omega)) (fun x y x1 x2 x4 x5 x6 x7 => hK x y x1 (by omega) (by omega) (by omega))
    · rcases hxy with z | z
      · exact Or.inr (Or.inr (Or.inl z))
      · exact Or.inr (Or.inr (Or.inr ⟨k, by omega, z⟩))
    · rw [g_3_ne _ _ (by omega), g_3_ne _ _ (by omega)]; exact hg a y a0 a1 hy
  · rw [eG]
    exact c_fk_eq s13 (kf 5) (kf 6) (kf 10) (fun k => hK _ k (ga_lt s13.2.1.2) (by omega) (by omega) (by omega))
