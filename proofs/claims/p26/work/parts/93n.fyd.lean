/-- cells that drawing and handing over trees leave -/
def okt (c n : Nat) (x : Int) : Prop := c ≠ 104 ∧ c ≠ 105 ∧ ¬ (c = 0 ∧ n = 120) ∧ ¬ (c = 1 ∧ 16 ≤ n) ∧ (c ≠ 108 ∨ x ≠ 10)
def D2 (H : e3_H) (G : e3_G) (K : e3_H) (G2 : e3_G) : Prop := (∃ E, G2 = G ++ E) ∧ (∀ (b x : Int) (c n : Nat), g_at G b (c, n) → okt c n x → K b x = H b x) ∧ ∀ b x : Int, b < 16 ∨ (26 ≤ b ∧ b < 139) → K b x = H b x
theorem D2_rf (H : e3_H) (G : e3_G) : D2 H G H G := ⟨⟨[], (List.append_nil _).symm⟩, fun _ _ _ _ _ _ => rfl, fun _ _ _ => rfl⟩
theorem D2_tr {H K K2 : e3_H} {G G2 G3 : e3_G} (h : D2 H G K G2) (h2 : D2 K G2 K2 G3) : D2 H G K2 G3 := by
  obtain ⟨⟨E, a1⟩, a2, a3⟩ := h
  obtain ⟨⟨E2, b1⟩, b2, b3⟩ := h2
  refine ⟨⟨E ++ E2, by rw [b1, a1, List.append_assoc]⟩, fun b x c n hb ho => ?_, fun b x hb => (b3 b x hb).trans (a3 b x hb)⟩
  rw [b2 b x c n (by rw [a1]; exact ga_app hb) ho]
  exact a2 b x c n hb ho
theorem okt_d {c n : Nat} {x : Int} (h1 : c ≠ 104) (h2 : c ≠ 105) (h3 : 2 ≤ c) (h4 : c ≠ 108 ∨ x ≠ 10) : okt c n x := ⟨h1, h2, fun z => by omega, fun z => by omega, h4⟩
section FYD
variable {σ g : e3_H} {pn : Int → Int} {cnt m : Nat} {f fu r a lo hi : Int} {A : Int → Int} {L : List Int} {Vs : Int → Int → List (Int × Int)} {H K : e3_H} {G G2 : e3_G}
theorem FRu_D (h : FRu σ g pn cnt r a H G lo hi L) (hr : D2 H G K G2) : FRu σ g pn cnt r a K G2 lo hi L := by
  obtain ⟨⟨E, r1⟩, r2, r3⟩ := hr
  obtain ⟨⟨u1, u2, u3, u4, u5, u6, u7, u8, u9⟩, h2, h3, h4, h5, h6, h7⟩ := h
  have ea : ∀ x : Int, K a x = H a x := fun x => r2 a x _ _ u1 (okt_d (by decide) (by decide) (by decide) (Or.inl (by decide)))
  have ea1 : ∀ x : Int, K (a + 1) x = H (a + 1) x := fun x => r2 _ x _ _ u4 ⟨by decide, by decide, by decide, by decide, Or.inl (by decide)⟩
  subst r1
  refine ⟨⟨ga_app u1, by rw [ea]; exact u2, u3, ga_app u4, by rw [ea]; exact u5, u6, fun k hk => by rw [ea1]; exact u7 k hk, u8, u9⟩, by rw [ea]; exact h2, ⟨by rw [ea]; exact h3.1, by rw [ea]; exact h3.2.1, by rw [ea]; exact h3.2.2⟩, h4, fun q q1 q2 => ?_, h6, h7⟩
  obtain ⟨hp, hq⟩ := h5 q q1 q2
  have e : ∀ k : Int, K (g 0 q) k = H (g 0 q) k := fun k => r2 _ k _ _ hp.1.2.1 (okt_d (by decide) (by decide) (by decide) (Or.inl (by decide)))
  refine ⟨?_, by rw [e]; exact hq⟩
  exact c_pt_keep hp ⟨E, rfl⟩ (fun _ _ _ => rfl) (fun _ _ _ => rfl) (Int.le_refl _) (fun _ _ _ _ _ => rfl) (fun _ _ _ => rfl) (Int.le_refl _) q2 (Int.le_refl _) e
theorem RB_D (h : RB σ g pn cnt m f fu A Vs H G) (hr : D2 H G K G2) : RB σ g pn cnt m f fu A Vs K G2 := by
  obtain ⟨b1, b2, b3, b4, ⟨b5, b6, b7, b8⟩, b9, b10⟩ := h
  obtain ⟨⟨E, r1⟩, r2, r3⟩ := id hr
  have ef : ∀ x : Int, x ≠ 10 → K fu x = H fu x := fun x hx => r2 fu x _ _ b1.2 (okt_d (by decide) (by decide) (by decide) (Or.inr hx))
  refine ⟨⟨b1.1, by rw [r1]; exact ga_app b1.2⟩, ⟨by rw [ef _ (by decide)]; exact b2.1, by rw [r1]; exact ga_app b2.2⟩, by rw [ef _ (by decide)]; exact b3, b4, ⟨by rw [ef _ (by decide)]; exact b5, b6, by rw [ef _ (by decide)]; exact b7, by rw [ef _ (by decide), r1]; exact ga_app b8⟩, fun k hk => ?_, b10⟩
  obtain ⟨c1, c2, lo, hi, L, c3, c4⟩ := b9 k hk
  refine ⟨?_, c2, lo, hi, L, FRu_D c3 hr, c4⟩
  rw [ef _ (by decide), r2 _ _ _ _ b8 (okt_d (by decide) (by decide) (by decide) (Or.inl (by decide)))]
  exact c1
theorem pl_D {cx : Int → Int} (h : c_pl H G fu cx) (hr : D2 H G K G2) : c_pl K G2 fu cx := by
  obtain ⟨⟨E, r1⟩, r2, r3⟩ := hr
  rw [r1]
  refine c_pl_eq2 h (fun a k ha => ?_)
  obtain ⟨_, y2, L, y3, y4, _, y6, _⟩ := h
  have hL : ¬ ((0 : Nat) = 0 ∧ L = 120) := fun z => by omega
  rcases ha with ⟨z, z2⟩ | z | z
  · rw [z]; exact r2 _ k _ _ y2 (okt_d (by decide) (by decide) (by decide) (Or.inr (by omega)))
  · rw [z]; exact r2 _ k _ _ y3.2 ⟨by decide, by decide, hL, fun z => absurd z.1 (by decide), Or.inl (by decide)⟩
  · rw [z]; exact r2 _ k _ _ y4.2 ⟨by decide, by decide, hL, fun z => absurd z.1 (by decide), Or.inl (by decide)⟩
theorem fc_D {cols : Nat} {S : Nat → Int} (hf : g_at G fu (108, 11)) (h : c_fc fu cols S g H G) (hr : D2 H G K G2) : c_fc fu cols S g K G2 := by
  obtain ⟨⟨E, r1⟩, r2, r3⟩ := hr
  obtain ⟨c1, ⟨c2, c3⟩, c4, c5⟩ := h
  have ef : ∀ x : Int, x ≠ 10 → K fu x = H fu x := fun x hx => r2 fu x _ _ hf (okt_d (by decide) (by decide) (by decide) (Or.inr hx))
  refine ⟨by rw [ef _ (by decide)]; exact c1, by rw [ef _ (by decide), r1]; exact ⟨c2, ga_app c3⟩, c4, fun c hc => ?_⟩
  rw [ef _ (by decide), ef _ (by decide), r2 _ c _ _ c3 ⟨by decide, by decide, by decide, by decide, Or.inl (by decide)⟩]
  exact c5 c hc
theorem rws_D {B w0 : Int} {k0 : Nat} (h : c_rws f fu B cnt A Vs σ g pn k0 w0 H G) (hf : g_at G (fu + 3) (6, 40)) (hr : D2 H G K G2) : c_rws f fu B cnt A Vs σ g pn k0 w0 K G2 := by
  obtain ⟨⟨E, r1⟩, r2, r3⟩ := hr
  intro k w hkw w0
  obtain ⟨a1, a2, a3⟩ := h k w hkw w0
  obtain ⟨o1, o2, o3, ⟨o4, o5⟩, ⟨o6, o7⟩, ⟨o8, o9⟩⟩ := id a2
  have e3 : ∀ x : Int, K (fu + 3) x = H (fu + 3) x := fun x => r2 _ x _ _ hf (okt_d (by decide) (by decide) (by decide) (Or.inl (by decide)))
  refine ⟨by rw [e3]; exact a1, by rw [r1]; exact O_ob_eq a2 (fun x => r2 _ x _ _ o2 (okt_d (by decide) (by decide) (by decide) (Or.inl (by decide)))), c_row_eq a3 (fun b x b1 b2 => ?_)⟩
  have hc : b = B + 4 * (rsum σ f k + w) ∨ b = B + 4 * (rsum σ f k + w) + 1 ∨ b = B + 4 * (rsum σ f k + w) + 2 ∨ b = B + 4 * (rsum σ f k + w) + 3 := by omega
  rcases hc with z | z | z | z
  · rw [z]; exact r2 _ x _ _ o2 (okt_d (by decide) (by decide) (by decide) (Or.inl (by decide)))
  · rw [z]; exact r2 _ x _ _ o5 ⟨by decide, by decide, by decide, by decide, Or.inl (by decide)⟩
  · rw [z]; exact r2 _ x _ _ o7 (okt_d (by decide) (by decide) (by decide) (Or.inl (by decide)))
  · rw [z]; exact r2 _ x _ _ o9 (okt_d (by decide) (by decide) (by decide) (Or.inl (by decide)))
end FYD
theorem FY_D {σ g H K : e3_H} {G G2 : e3_G} {Vs : Int → Int → Int → List (Int × Int)} {f : Nat} (h : FY σ g Vs f H G) (hr : D2 H G K G2) : FY σ g Vs f K G2 := by
  obtain ⟨cx, pn, cnt, m, A, B, h1, h2, h3, h4, h5, h6, h7⟩ := h
  have e15 : K 15 f = H 15 f := hr.2.2 15 f (by decide)
  have ef : ∀ x : Int, x ≠ 10 → K (H 15 f) x = H (H 15 f) x := fun x hx => hr.2.1 _ x _ _ h1.1.2 (okt_d (by decide) (by decide) (by decide) (Or.inr hx))
  exact ⟨cx, pn, cnt, m, A, B, by rw [e15]; exact RB_D h1 hr, h2, by rw [e15, ef 0 (by decide)]; exact h3, by rw [e15]; exact pl_D h4 hr, by rw [e15]; exact fc_D h1.1.2 h5 hr, by rw [e15, ef 5 (by decide)]; exact h6, by rw [e15]; exact rws_D h7 h1.2.1.2 hr⟩
