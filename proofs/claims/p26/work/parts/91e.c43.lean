/-- what laying Rows keeps -/
def RF (H : e3_H) (G : e3_G) (K : e3_H) (G2 : e3_G) : Prop := (∃ E, G2 = G ++ E) ∧ (∀ (b x : Int) (c n : Nat), g_at G b (c, n) → c ≠ 6 → c ≠ 108 ∨ x ≠ 5 → K b x = H b x) ∧ ∀ b x : Int, b < 139 → K b x = H b x
theorem RF_rf (H : e3_H) (G : e3_G) : RF H G H G := ⟨⟨[], (List.append_nil _).symm⟩, fun _ _ _ _ _ _ _ => rfl, fun _ _ _ => rfl⟩
theorem RF_tr {H K K2 : e3_H} {G G2 G3 : e3_G} (h : RF H G K G2) (h2 : RF K G2 K2 G3) : RF H G K2 G3 := by
  obtain ⟨⟨E, a1⟩, a2, a3⟩ := h
  obtain ⟨⟨E2, b1⟩, b2, b3⟩ := h2
  refine ⟨⟨E ++ E2, by rw [b1, a1, List.append_assoc]⟩, fun b x c n hb h6 hx => ?_, fun b x hb => (b3 b x hb).trans (a3 b x hb)⟩
  rw [b2 b x c n (by rw [a1]; exact ga_app hb) h6 hx]
  exact a2 b x c n hb h6 hx
section C43
variable {σ g : e3_H} {pn : Int → Int} {cnt m : Nat} {f fu : Int} {A : Int → Int} {Vs : Int → Int → List (Int × Int)} {H K : e3_H} {G G2 : e3_G}
theorem RB_eq (h : RB σ g pn cnt m f fu A Vs H G) (hr : RF H G K G2) : RB σ g pn cnt m f fu A Vs K G2 := by
  obtain ⟨b1, b2, b3, b4, ⟨b5, b6, b7, b8⟩, b9, b10⟩ := h
  obtain ⟨⟨E, r1⟩, r2, r3⟩ := hr
  have ef : ∀ x : Int, x ≠ 5 → K fu x = H fu x := fun x hx => r2 fu x _ _ b1.2 (by decide) (Or.inr hx)
  refine ⟨⟨b1.1, by rw [r1]; exact ga_app b1.2⟩, ⟨by rw [ef _ (by decide)]; exact b2.1, by rw [r1]; exact ga_app b2.2⟩, by rw [ef _ (by decide)]; exact b3, b4, ⟨by rw [ef _ (by decide)]; exact b5, b6, by rw [ef _ (by decide)]; exact b7, by rw [ef _ (by decide), r1]; exact ga_app b8⟩, fun k hk => ?_, b10⟩
  obtain ⟨c1, c2, lo, hi, L, c3, c4⟩ := b9 k hk
  refine ⟨?_, c2, lo, hi, L, ?_, c4⟩
  · rw [ef _ (by decide), r2 _ _ _ _ b8 (by decide) (Or.inl (by decide))]
    exact c1
  · rw [r1]
    exact FRu_eq c3 (fun b x hb => by
      obtain ⟨c, n', t1, t2, t3⟩ := hb
      exact r2 b x c n' t1 t3 (Or.inl t2))
theorem pl_RF {cx : Int → Int} (h : c_pl H G fu cx) (hr : RF H G K G2) : c_pl K G2 fu cx := by
  obtain ⟨⟨E, r1⟩, r2, r3⟩ := hr
  rw [r1]
  refine c_pl_eq2 h (fun a k ha => ?_)
  obtain ⟨_, y2, L, y3, y4, _⟩ := h
  rcases ha with ⟨z, z2⟩ | z | z
  · rw [z]; exact r2 _ k _ _ y2 (by decide) (Or.inr (by omega))
  · rw [z]; exact r2 _ k _ _ y3.2 (by decide) (Or.inl (by decide))
  · rw [z]; exact r2 _ k _ _ y4.2 (by decide) (Or.inl (by decide))
theorem fc_RF {cols : Nat} {S : Nat → Int} (hf : g_at G fu (108, 11)) (h : c_fc fu cols S g H G) (hr : RF H G K G2) : c_fc fu cols S g K G2 := by
  obtain ⟨⟨E, r1⟩, r2, r3⟩ := hr
  obtain ⟨c1, ⟨c2, c3⟩, c4, c5⟩ := h
  have ef : ∀ x : Int, x ≠ 5 → K fu x = H fu x := fun x hx => r2 fu x _ _ hf (by decide) (Or.inr hx)
  refine ⟨by rw [ef _ (by decide)]; exact c1, by rw [ef _ (by decide), r1]; exact ⟨c2, ga_app c3⟩, c4, fun c hc => ?_⟩
  rw [ef _ (by decide), ef _ (by decide), r2 _ c _ _ c3 (by decide) (Or.inl (by decide))]
  exact c5 c hc
theorem rws_RF {B w0 : Int} {k0 : Nat} (h : c_rws f fu B cnt A Vs σ g pn k0 w0 H G) (hr : RF H G K G2) (e3 : ∀ x : Int, K (fu + 3) x = H (fu + 3) x) : c_rws f fu B cnt A Vs σ g pn k0 w0 K G2 := by
  obtain ⟨⟨E, r1⟩, r2, r3⟩ := hr
  intro k w hkw w0
  obtain ⟨a1, a2, a3⟩ := h k w hkw w0
  obtain ⟨o1, o2, o3, ⟨o4, o5⟩, ⟨o6, o7⟩, ⟨o8, o9⟩⟩ := id a2
  refine ⟨by rw [e3]; exact a1, by rw [r1]; exact O_ob_eq a2 (fun x => r2 _ x _ _ o2 (by decide) (Or.inl (by decide))), c_row_eq a3 (fun b x b1 b2 => ?_)⟩
  have hc : b = B + 4 * (rsum σ f k + w) ∨ b = B + 4 * (rsum σ f k + w) + 1 ∨ b = B + 4 * (rsum σ f k + w) + 2 ∨ b = B + 4 * (rsum σ f k + w) + 3 := by omega
  rcases hc with z | z | z | z
  · rw [z]; exact r2 _ x _ _ o2 (by decide) (Or.inl (by decide))
  · rw [z]; exact r2 _ x _ _ o5 (by decide) (Or.inl (by decide))
  · rw [z]; exact r2 _ x _ _ o7 (by decide) (Or.inl (by decide))
  · rw [z]; exact r2 _ x _ _ o9 (by decide) (Or.inl (by decide))
theorem RI_RF (h : RB σ g pn cnt m f fu A Vs H G) (hI : RI σ g pn cnt f fu A Vs H G m 0 K G2) (h139 : 139 ≤ (G.length : Int)) : RF H G K G2 := by
  obtain ⟨i1, i2, _, i4, _⟩ := hI
  obtain ⟨b1, b2, _⟩ := h
  refine ⟨i4, fun b x c n hb h6 hx => ?_, fun b x hb => i1 b x (by omega) (by omega) (by omega)⟩
  have hl := ga_lt hb
  have n3 : b ≠ fu + 3 := ga_ne hb b2.2 h6
  by_cases hz : b = fu
  · subst hz
    have := (Prod.mk.inj (ga_eq hb b1.2)).1
    exact i2 x (by omega)
  · exact i1 b x hl hz n3
end C43
theorem FX_RF {σ g H K : e3_H} {G G2 : e3_G} {Vs : Int → Int → Int → List (Int × Int)} {f : Nat} (h : FX σ g Vs f H G) (hr : RF H G K G2) : FX σ g Vs f K G2 := by
  obtain ⟨cx, pn, cnt, m, A, h1, h2, h3, h4, h5⟩ := h
  have e15 : K 15 f = H 15 f := hr.2.2 15 f (by decide)
  have e0 : K (H 15 f) 0 = H (H 15 f) 0 := hr.2.1 _ _ _ _ h1.1.2 (by decide) (Or.inr (by decide))
  exact ⟨cx, pn, cnt, m, A, by rw [e15]; exact RB_eq h1 hr, h2, by rw [e15, e0]; exact h3, by rw [e15]; exact pl_RF h4 hr, by rw [e15]; exact fc_RF h1.1.2 h5 hr⟩
theorem FY_RF {σ g H K : e3_H} {G G2 : e3_G} {Vs : Int → Int → Int → List (Int × Int)} {f : Nat} (h : FY σ g Vs f H G) (hr : RF H G K G2) (e5 : K (H 15 f) 5 = H (H 15 f) 5) (e3 : ∀ x : Int, K (H 15 f + 3) x = H (H 15 f + 3) x) : FY σ g Vs f K G2 := by
  obtain ⟨cx, pn, cnt, m, A, B, h1, h2, h3, h4, h5, h6, h7⟩ := h
  have e15 : K 15 f = H 15 f := hr.2.2 15 f (by decide)
  have e0 : K (H 15 f) 0 = H (H 15 f) 0 := hr.2.1 _ _ _ _ h1.1.2 (by decide) (Or.inr (by decide))
  exact ⟨cx, pn, cnt, m, A, B, by rw [e15]; exact RB_eq h1 hr, h2, by rw [e15, e0]; exact h3, by rw [e15]; exact pl_RF h4 hr, by rw [e15]; exact fc_RF h1.1.2 h5 hr, by rw [e15, e5]; exact h6, by rw [e15]; exact rws_RF h7 hr e3⟩
/-- the Rows of all FUNCTIONS are laid -/
theorem cR_43 {Q : Int → e3_H → e3_G → Prop} {σ g H0 : e3_H} {G0 : e3_G} {nf : Nat} {Vs : Int → Int → Int → List (Int × Int)} (hds : a_ds (σ 67) nf) (hnf : nf ≤ 12) (h139 : 139 ≤ (G0.length : Int)) (h143 : H0 14 3 = nf) (hfu : ∀ f : Nat, f < nf → g_at G0 (H0 15 f) (108, 11))
    (hQ : ∀ (K : e3_H) (G : e3_G), (∀ f : Nat, f < nf → FY σ g Vs f K G) → RF H0 G0 K G → gz G ≤ gz G0 + 40 * (61 * (nf : Int) + 2 * s7 H0 nf) → Q 1 K G) : ∀ (d f : Nat) (K : e3_H) (G : e3_G), f + d = nf → (∀ f' : Nat, f' < f → FY σ g Vs f' K G) → (∀ f' : Nat, f ≤ f' → f' < nf → FX σ g Vs f' K G) → RF H0 G0 K G → gz G ≤ gz G0 + 40 * (61 * (f : Int) + 2 * s7 H0 f) → wR_layRows_43 Q (d + 1) f K G := by
  intro d
  induction d with
  | zero =>
    intro f K G hd hY _ hr hg
    have hd : f = nf := hd
    subst hd
    exact brF (by rw [hr.2.2 14 3 (by decide), h143]; omega) (hQ K G hY hr hg)
  | succ d ih =>
    intro f K G hd hY hX hr hg
    have e14 : K 14 3 = nf := by rw [hr.2.2 14 3 (by decide)]; exact h143
    obtain ⟨cx, pn, cnt, m, A, x1, x2, x3, x4, x5⟩ := hX f (Nat.le_refl _) (by omega)
    have hl : 139 ≤ (G.length : Int) := by obtain ⟨E, e⟩ := hr.1; rw [e, List.length_append]; omega
    refine brT (by rw [e14]; omega) ⟨⟨by omega, by omega⟩, ga_ob (c := 8) x1.1.2, cF_layRows x1 (fun K2 G2 hI => ?_)⟩
    rw [w_p1 (by omega)]
    have hRF := RI_RF x1 hI hl
    have e15 : ∀ f' : Nat, K2 15 f' = K 15 f' := fun f' => hRF.2.2 15 f' (by decide)
    obtain ⟨i1, i2, i3, i4, i5, i6, i7⟩ := id hI
    have e7 : s7 H0 (f + 1) = s7 H0 f + cnt := by
      show s7 H0 f + H0 (H0 15 f) 7 = _
      have u1 : K 15 f = H0 15 f := hr.2.2 15 f (by decide)
      have u2 := x1.2.2.1
      rw [u1, hr.2.1 _ 7 _ _ (hfu f (by omega)) (by decide) (Or.inr (by decide))] at u2
      rw [u2]
    refine ih (f + 1) K2 G2 (by omega) (fun f' hf' => ?_) (fun f' h1 h2 => FX_RF (hX f' (by omega) h2) hRF) (RF_tr hr hRF) ?_
    · by_cases hz : f' = f
      · subst hz
        have e0 : K2 (K 15 f') 0 = K (K 15 f') 0 := hRF.2.1 _ _ _ _ x1.1.2 (by decide) (Or.inr (by decide))
        refine ⟨cx, pn, cnt, m, A, (G.length : Int), by rw [e15]; exact RB_eq x1 hRF, x2, by rw [e15, e0]; exact x3, by rw [e15]; exact pl_RF x4 hRF, by rw [e15]; exact fc_RF x1.1.2 x5 hRF, by rw [e15, i3]; omega, by rw [e15]; exact i7⟩
      · have y := hY f' (by omega)
        obtain ⟨cx', pn', cnt', m', A', B', y1, y2, y3, _⟩ := id y
        have hne : K 15 f' ≠ K 15 f := fun z => by
          rw [z, x3] at y3
          exact hz (hds f' f (by omega) (by omega) y3.symm)
        refine FY_RF y hRF (i1 _ _ (ga_lt y1.1.2) hne (ga_ne y1.1.2 x1.2.1.2 (by decide))) (fun x => i1 _ x (ga_lt y1.2.1.2) (ga_ne y1.2.1.2 x1.1.2 (by decide)) (fun z => hne (by omega)))
    · have hm := x1.2.2.2.2.2.2
      have h0 : 0 ≤ rsum σ f m := (rsum_0 (fun k hk => (x1.2.2.2.2.2.1 k hk).2.1) 0 m (by omega)).1
      have := Int.mul_le_mul_of_nonneg_right (show rsum σ f m + 0 ≤ 40 by omega) (show 0 ≤ 61 + 2 * (cnt : Int) by omega)
      rw [i6, e7]
      omega
