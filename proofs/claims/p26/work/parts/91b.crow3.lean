/-- a rule whose rows are laid: rule r at a, its patterns from lo to hi, its columns L -/
def FRu (σ g : e3_H) (pn : Int → Int) (cnt : Nat) (r a : Int) (H : e3_H) (G : e3_G) (lo hi : Int) (L : List Int) : Prop := U_ok σ r a H G ∧ H a 2 = c_lk g (σ 72 r) ∧ (H a 3 = σ 74 r ∧ H a 7 = σ 78 r ∧ H a 0 = r % 16) ∧ 0 ≤ lo ∧ (∀ q : Int, lo ≤ q → q < hi → c_pt σ r g H G cnt hi q ∧ H (g 0 q) 2 = pn q) ∧ (L.length ≤ 4 ∧ ach σ (σ 72 r) L ∧ (∀ x, x ∈ L → lo ≤ x ∧ x < hi ∧ wt σ 6 hi x) ∧ wp σ L = σ 74 r) ∧ (lo ≤ σ 72 r ∧ σ 72 r < hi ∧ g 1 (σ 72 r) = 1 ∧ g 2 (σ 72 r) = 1)
section CROW3
variable {σ g : e3_H} {pn : Int → Int} {cnt : Nat} {r a lo hi fu : Int} {L : List Int}
theorem FRu_eq {H K : e3_H} {G E : e3_G} (h : FRu σ g pn cnt r a H G lo hi L) (e : ∀ b x : Int, (∃ c n : Nat, g_at G b (c, n) ∧ c ≠ 108 ∧ c ≠ 6) → K b x = H b x) : FRu σ g pn cnt r a K (G ++ E) lo hi L := by
  obtain ⟨⟨u1, u2, u3, u4, u5, u6, u7, u8, u9⟩, h2, h3, h4, h5, h6, h7⟩ := h
  have ea : ∀ x : Int, K a x = H a x := fun x => e a x ⟨_, _, u1, by decide, by decide⟩
  have ea1 : ∀ x : Int, K (a + 1) x = H (a + 1) x := fun x => e _ x ⟨_, _, u4, by decide, by decide⟩
  refine ⟨⟨ga_app u1, by rw [ea]; exact u2, u3, ga_app u4, by rw [ea]; exact u5, u6, fun k hk => by rw [ea1]; exact u7 k hk, u8, u9⟩, by rw [ea]; exact h2, ⟨by rw [ea]; exact h3.1, by rw [ea]; exact h3.2.1, by rw [ea]; exact h3.2.2⟩, h4, fun q q1 q2 => ?_, h6, h7⟩
  obtain ⟨hp, hq⟩ := h5 q q1 q2
  refine ⟨?_, by rw [e _ 2 ⟨_, _, hp.1.2.1, by decide, by decide⟩]; exact hq⟩
  exact c_pt_keep hp ⟨E, rfl⟩ (fun _ _ _ => rfl) (fun _ _ _ => rfl) (Int.le_refl _) (fun _ _ _ _ _ => rfl) (fun _ _ _ => rfl) (Int.le_refl _) q2 (Int.le_refl _) (fun k => e _ k ⟨_, _, hp.1.2.1, by decide, by decide⟩)
/-- places of the tests of a way differ -/
theorem row_pw {H : e3_H} {G : e3_G} (h : FRu σ g pn cnt r a H G lo hi L) {w : Int} {V : List (Int × Int)} (hv : lyC (lyV σ 6) σ L w 1 V) : (∀ p, p ∈ V → (lo ≤ p.1 ∧ p.1 < hi) ∧ (0 ≤ pn p.1 ∧ pn p.1 < cnt) ∧ g 3 (pn p.1) = p.2) ∧ tsn σ V ≤ cnt ∧ (tl σ V).Pairwise (fun a b => pn a.1 ≠ pn b.1) := by
  obtain ⟨_, _, _, h4, h5, ⟨h6, h7, h8, _⟩, h9, h10, h11, h12⟩ := h
  have hC := CL_of (fun q q1 q2 => (h5 q q1 q2).1)
  have hn : ∀ c, c ∈ L → c ≠ -4 := fun c hc => by have := (h8 c hc).1; omega
  have hm := lyC_g1 hC (lyV_g1 hC 6) L w 1 _ V hv h7 hn (fun _ => ⟨h9, h10, h11, h12⟩)
  have hP : ∀ p, p ∈ V → (lo ≤ p.1 ∧ p.1 < hi) ∧ (0 ≤ pn p.1 ∧ pn p.1 < cnt) ∧ g 3 (pn p.1) = p.2 := fun p hp => by
    obtain ⟨m1, m2, m3⟩ := hm p hp
    have hc := (h5 p.1 m1 m2).1.1
    have hpn := (h5 p.1 m1 m2).2
    rw [← hpn]
    exact ⟨⟨m1, m2⟩, hc.2.2.2.2.1, hc.2.2.2.2.2.1.trans m3⟩
  have hw := rule_PW h6 hv
  refine ⟨hP, tsn_le (g := g) (pn := pn) hw (fun p hp => (hP p hp).2), ?_⟩
  exact List.Pairwise.imp_of_mem (fun {x y} hx hy hr e => hr (by rw [← (hP x (tl_mem.mp hx).1).2.2, ← (hP y (tl_mem.mp hy).1).2.2, e])) (tl_PW hw)
/-- one row more -/
theorem cF_row {Q : e3_H → e3_G → Prop} {k7 : Int → Int → e3_H → e3_G → Prop} {nn : Nat} {l1 w i : Int} {H : e3_H} {G : e3_G} {V : List (Int × Int)} (hfu : 139 ≤ fu ∧ g_at G fu (108, 11)) (hf3 : H fu 6 = fu + 3 ∧ g_at G (fu + 3) (6, 40)) (h7 : H fu 7 = cnt) (h5 : H fu 5 = i) (hi40 : 0 ≤ i ∧ i < 40) (hF : FRu σ g pn cnt r a H G lo hi L) (hcn : cnt ≤ 100000) (hw : 0 ≤ w ∧ w < σ 74 r) (h74 : σ 74 r ≤ 40) (hv : lyC (lyV σ 6) σ L w 1 V)
    (hQ : ∀ K : e3_H, (∀ b x : Int, b < G.length → b ≠ fu → b ≠ fu + 3 → K b x = H b x) → (∀ x : Int, x ≠ 5 → K fu x = H fu x) → K fu 5 = i + 1 → (∀ x : Int, x ≠ i → K (fu + 3) x = H (fu + 3) x) → K (fu + 3) i = (G.length : Int) → O_ob (G.length : Int) a cnt K (G ++ g_ro cnt) → c_row (G.length : Int) a cnt V σ g pn K → wF_layRows_24 Q k7 nn fu l1 a (w + 1) K (G ++ g_ro cnt)) : wF_layRows_24 Q k7 (nn + 1) fu l1 a w H G := by
  have obf : ∀ E : e3_G, e3_ob (G ++ E) 8 fu := fun E => ga_ob (c := 8) (ga_app hfu.2)
  have lf := ga_lt hfu.2
  have lf3 := ga_lt hf3.2
  obtain ⟨pw1, pw2, pw3⟩ := row_pw hF hv
  obtain ⟨hU, r2, r3, r4, r5, ⟨s1, s2, s3, s4⟩, _⟩ := hF
  have oba : ∀ E : e3_G, e3_ob (G ++ E) 9 a := fun E => ga_ob (c := 9) (ga_app hU.1)
  have la := ga_lt hU.1
  have la1 := ga_lt hU.2.2.2.1
  refine ⟨ga_ob (c := 9) hU.1, brT (by rw [r3.1]; exact hw.2) ⟨ga_ob (c := 8) hfu.2, brT (by rw [h5]; exact hi40.2) ?_⟩⟩
  intro H3 G4 e3 g4
  subst e3
  subst g4
  refine ⟨obf _, by omega, ?_⟩
  rw [nw_ne (by omega), h7]
  refine cO_init (σ := σ) (g := g) (pn := pn) (by omega) hcn (fun K kf kO kr => ⟨oba _, ga_ob (c := 11) kO.2.1, L.length + 1, ?_⟩)
  rw [kf _ _ la, r2]
  have hX : LX σ r g pn (G ++ g_ro cnt) cnt (G.length : Int) a lo hi K := by
    refine ⟨kO, U_ok_eq (R := (G.length : Int)) ⟨ga_app hU.1, hU.2.1, hU.2.2.1, ga_app hU.2.2.2.1, hU.2.2.2.2⟩ la1 kf, la1, hcn, r4, fun q q1 q2 => ?_⟩
    obtain ⟨hp, hpn⟩ := r5 q q1 q2
    have lq := ga_lt hp.1.2.1
    exact ⟨c_pt_keep hp ⟨g_ro cnt, rfl⟩ (fun _ _ _ => rfl) (fun _ _ _ => rfl) (Int.le_refl _) (fun _ _ _ _ _ => rfl) (fun _ _ _ => rfl) (Int.le_refl _) q2 (Int.le_refl _) (fun k => kf _ k lq), lq, (kf _ 2 lq).trans hpn⟩
  have k1 : K (G.length : Int) 1 = 0 := kr.2.1
  refine cO_chain (n := 9) (k := 6) (d := 0) (fun q w x V H Q v1 v2 v3 v4 v5 v6 v7 v8 v9 v10 v11 => cO_lay 6 9 0 q w x V H Q (by omega) (by omega) (by omega) v1 v2 v3 v4 v5 v6 v7 v8 v9 v10 v11) L w 1 V K (σ 72 r) _ hv s2 s3 hw.1 (by omega) (by omega) hX (by omega) (by omega) ?_
  have hat := rw_at (R := (G.length : Int)) (pn := pn) (σ := σ) (g := g) V K
  have m6 : rw_st (G.length : Int) pn σ g V K fu 6 = fu + 3 := by rw [hat.1 _ _ lf, kf _ _ lf]; exact hf3.1
  have m5 : rw_st (G.length : Int) pn σ g V K fu 5 = i := by rw [hat.1 _ _ lf, kf _ _ lf]; exact h5
  refine ⟨obf _, obf _, ?_, Or.inr (ga_ob (c := 11) kO.2.1), ?_⟩
  · rw [m6, m5]
    exact ga_oa (ga_app hf3.2) (by omega) ⟨hi40.1, by omega⟩
  · intro H13 e13
    rw [m6, m5] at e13
    refine ⟨obf _, obf _, ?_⟩
    intro H18 e18
    have m13 : H13 fu 5 = i := by rw [e13, e3_up_ne (ne_1 (by omega))]; exact m5
    rw [m13, e3_w32_id (x := i + 1) (by omega) (by omega)] at e18
    rw [e3_w32_id (x := w + 1) (by omega) (by omega)]
    have b1 : ∀ b x : Int, b ≠ fu → b ≠ fu + 3 → H18 b x = rw_st (G.length : Int) pn σ g V K b x := fun b x h1 h2 => by
      rw [e18, e3_up_ne (ne_1 h1), e13, e3_up_ne (ne_1 h2)]
    have hr := c_row_st V [] K kr pw3
    rw [List.nil_append] at hr
    have hO := (LX_st V K hX).1
    refine hQ H18 (fun b x hb h1 h2 => ?_) (fun x hx => ?_) ?_ (fun x hx => ?_) ?_ ?_ (c_row_eq hr (fun b x b1' b2 => b1 b x (by omega) (by omega)))
    · rw [b1 b x h1 h2, hat.1 _ _ hb, kf _ _ hb]
    · rw [e18, e3_up_ne (fun z => hx z.2), e13, e3_up_ne (ne_1 (by omega)), hat.1 _ _ lf, kf _ _ lf]
    · rw [e18, e3_up_self]
    · rw [e18, e3_up_ne (ne_1 (by omega)), e13, e3_up_ne (fun z => hx z.2), hat.1 _ _ lf3, kf _ _ lf3]
    · rw [e18, e3_up_ne (ne_1 (by omega)), e13, e3_up_self]
    · obtain ⟨o1, o2, o3, ⟨o4, o5⟩, ⟨o6, o7⟩, ⟨o8, o9⟩⟩ := hO
      exact ⟨o1, o2, by rw [b1 _ _ (by omega) (by omega)]; exact o3, ⟨by rw [b1 _ _ (by omega) (by omega)]; exact o4, o5⟩, ⟨by rw [b1 _ _ (by omega) (by omega)]; exact o6, o7⟩, ⟨by rw [b1 _ _ (by omega) (by omega)]; exact o8, o9⟩⟩
end CROW3
