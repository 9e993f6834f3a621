section DR2
variable {t t2 : Int} {H K : e3_H} {G G2 : e3_G} {cnt kl : Nat}
/-- tags of a tree's cells -/
theorem TRE_tag (h : TRE t H G) {b : Int} (hb : t + 1 ≤ b ∧ b ≤ t + 6) : g_at G b (0, 120) ∨ g_at G b (1, 120) := by
  obtain ⟨_, _, ⟨_, a⟩, ⟨_, b'⟩, ⟨_, c⟩, ⟨_, d⟩, ⟨_, e⟩, ⟨_, f⟩⟩ := h
  have hc : b = t + 1 ∨ b = t + 2 ∨ b = t + 3 ∨ b = t + 4 ∨ b = t + 5 ∨ b = t + 6 := by omega
  rcases hc with z | z | z | z | z | z
  · rw [z]; exact Or.inl a
  · rw [z]; exact Or.inl b'
  · rw [z]; exact Or.inl c
  · rw [z]; exact Or.inl d
  · rw [z]; exact Or.inl e
  · rw [z]; exact Or.inr f
/-- two trees lie apart -/
theorem TRE_apart (h : TRE t H G) (h2 : TRE t2 H G) (hne : t2 ≠ t) : t2 + 6 < t ∨ t + 6 < t2 := by
  have k1 : ¬ (t + 1 ≤ t2 ∧ t2 ≤ t + 6) := fun z => by
    rcases TRE_tag h z with y | y
    · exact absurd (Prod.mk.inj (ga_eq h2.2.1 y)).1 (by decide)
    · exact absurd (Prod.mk.inj (ga_eq h2.2.1 y)).1 (by decide)
  have k2 : ¬ (t2 + 1 ≤ t ∧ t ≤ t2 + 6) := fun z => by
    rcases TRE_tag h2 z with y | y
    · exact absurd (Prod.mk.inj (ga_eq h.2.1 y)).1 (by decide)
    · exact absurd (Prod.mk.inj (ga_eq h.2.1 y)).1 (by decide)
  omega
/-- drawing a tree leaves what FUNCTIONS are -/
theorem DR_D2 (h139 : 139 ≤ (G.length : Int)) (hG : GB G) (hT : TRE t H G) (hA : DA (H 16 4) t G kl) (h : DR t H G K G2 cnt) : D2 H G K G2 := by
  obtain ⟨d1, d2, d3, d4⟩ := h
  obtain ⟨⟨k1, k2⟩, k3, k4, k5⟩ := hA
  obtain ⟨t0, t1, _⟩ := id hT
  refine ⟨?_, fun b x c n hb ho => ?_, fun b x hb => d1 b x (by omega) (by omega) (by omega) (by omega) (by omega) (by omega)⟩
  · rcases d3 with ⟨z, _⟩ | ⟨z, _⟩
    · exact ⟨[], by rw [z, List.append_nil]⟩
    · exact ⟨_, z⟩
  · obtain ⟨o1, o2, o3, o4, o5⟩ := ho
    refine d1 b x (ga_lt hb) (fun z => ?_) (fun z => ?_) (fun z => ?_) (fun z => ?_) (fun z => ?_)
    · rw [z] at hb; exact o1 (Prod.mk.inj (ga_eq hb hG.1)).1
    · rw [z] at hb
      have e := Prod.mk.inj (ga_eq hb hG.2)
      exact o4 ⟨e.1, by omega⟩
    · rw [z] at hb
      have e := Prod.mk.inj (ga_eq hb k2)
      exact o4 ⟨e.1, by omega⟩
    · rw [z] at hb; exact o2 (Prod.mk.inj (ga_eq hb t1)).1
    · rcases TRE_tag hT z with y | y
      · have e := Prod.mk.inj (ga_eq hb y)
        exact o3 ⟨e.1, e.2⟩
      · have e := Prod.mk.inj (ga_eq hb y)
        exact o4 ⟨e.1, by omega⟩
/-- another tree is left by drawing -/
theorem DR_tree (hG : GB G) (hT : TRE t H G) (hA : DA (H 16 4) t G kl) (h : DR t H G K G2 cnt) (hT2 : TRE t2 H G) (hne : t2 ≠ t) (hka : H 16 4 ≠ t2 + 6) : TRE t2 K G2 ∧ ∀ a x : Int, t2 ≤ a → a ≤ t2 + 6 → K a x = H a x := by
  obtain ⟨d1, d2, d3, d4⟩ := h
  obtain ⟨⟨k1, k2⟩, k3, k4, k5⟩ := hA
  have ap := TRE_apart hT hT2 hne
  have same : ∀ a x : Int, t2 ≤ a → a ≤ t2 + 6 → K a x = H a x := fun a x a1 a2 => by
    have ta : g_at G a (105, 10) ∨ g_at G a (0, 120) ∨ g_at G a (1, 120) := by
      by_cases hz : a = t2
      · rw [hz]; exact Or.inl hT2.2.1
      · exact Or.inr (TRE_tag hT2 ⟨by omega, a2⟩)
    have la : (a : Int) < G.length := by
      rcases ta with y | y | y <;> exact ga_lt y
    refine d1 a x la (fun z => ?_) (fun z => ?_) (fun z => ?_) (by omega) (by omega)
    · rw [z] at ta
      rcases ta with y | y | y <;> exact absurd (Prod.mk.inj (ga_eq y hG.1)).1 (by decide)
    · rw [z] at ta
      rcases ta with y | y | y
      · exact absurd (Prod.mk.inj (ga_eq y hG.2)).1 (by decide)
      · exact absurd (Prod.mk.inj (ga_eq y hG.2)).1 (by decide)
      · exact absurd (Prod.mk.inj (ga_eq y hG.2)).2 (by decide)
    · by_cases h6 : a = t2 + 6
      · omega
      · have ta2 : g_at G a (105, 10) ∨ g_at G a (0, 120) := by
          obtain ⟨_, q0, ⟨_, q1⟩, ⟨_, q2⟩, ⟨_, q3⟩, ⟨_, q4⟩, ⟨_, q5⟩, _⟩ := hT2
          have hc : a = t2 ∨ a = t2 + 1 ∨ a = t2 + 2 ∨ a = t2 + 3 ∨ a = t2 + 4 ∨ a = t2 + 5 := by omega
          rcases hc with z | z | z | z | z | z
          · rw [z]; exact Or.inl q0
          · rw [z]; exact Or.inr q1
          · rw [z]; exact Or.inr q2
          · rw [z]; exact Or.inr q3
          · rw [z]; exact Or.inr q4
          · rw [z]; exact Or.inr q5
        rw [z] at ta2
        rcases ta2 with y | y <;> exact absurd (Prod.mk.inj (ga_eq y k2)).1 (by decide)
  refine ⟨?_, same⟩
  obtain ⟨E, hE⟩ : ∃ E, G2 = G ++ E := by
    rcases d3 with ⟨z, _⟩ | ⟨z, _⟩
    · exact ⟨[], by rw [z, List.append_nil]⟩
    · exact ⟨_, z⟩
  subst hE
  obtain ⟨q, q0, ⟨p1, q1⟩, ⟨p2, q2⟩, ⟨p3, q3⟩, ⟨p4, q4⟩, ⟨p5, q5⟩, ⟨p6, q6⟩⟩ := hT2
  have s : ∀ x : Int, K t2 x = H t2 x := fun x => same t2 x (Int.le_refl _) (by omega)
  exact ⟨q, ga_app q0, ⟨by rw [s]; exact p1, ga_app q1⟩, ⟨by rw [s]; exact p2, ga_app q2⟩, ⟨by rw [s]; exact p3, ga_app q3⟩, ⟨by rw [s]; exact p4, ga_app q4⟩, ⟨by rw [s]; exact p5, ga_app q5⟩, ⟨by rw [s]; exact p6, ga_app q6⟩⟩
/-- the drawn tree itself -/
theorem DR_self (hT : TRE t H G) (h : DR t H G K G2 cnt) : TRE t K G2 := by
  obtain ⟨d1, d2, d3, d4⟩ := h
  obtain ⟨E, hE⟩ : ∃ E, G2 = G ++ E := by
    rcases d3 with ⟨z, _⟩ | ⟨z, _⟩
    · exact ⟨[], by rw [z, List.append_nil]⟩
    · exact ⟨_, z⟩
  subst hE
  obtain ⟨q, q0, ⟨p1, q1⟩, ⟨p2, q2⟩, ⟨p3, q3⟩, ⟨p4, q4⟩, ⟨p5, q5⟩, ⟨p6, q6⟩⟩ := hT
  exact ⟨q, ga_app q0, ⟨by rw [d4 _ (by decide)]; exact p1, ga_app q1⟩, ⟨by rw [d4 _ (by decide)]; exact p2, ga_app q2⟩, ⟨by rw [d4 _ (by decide)]; exact p3, ga_app q3⟩, ⟨by rw [d4 _ (by decide)]; exact p4, ga_app q4⟩, ⟨by rw [d4 _ (by decide)]; exact p5, ga_app q5⟩, ⟨by rw [d4 _ (by decide)]; exact p6, ga_app q6⟩⟩
end DR2
