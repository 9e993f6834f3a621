/-- what a FUNCTION needs kept: its own cells and the list of FUNCTIONS -/
def D3 (H : e3_H) (G : e3_G) (K : e3_H) (G2 : e3_G) : Prop := (∃ E, G2 = G ++ E) ∧ (∀ (b x : Int) (c n : Nat), g_at G b (c, n) → 139 ≤ b → okt c n x → K b x = H b x) ∧ ∀ x : Int, K 15 x = H 15 x
theorem D3_rf (H : e3_H) (G : e3_G) : D3 H G H G := ⟨⟨[], (List.append_nil _).symm⟩, fun _ _ _ _ _ _ _ => rfl, fun _ => rfl⟩
theorem D3_tr {H K K2 : e3_H} {G G2 G3 : e3_G} (h : D3 H G K G2) (h2 : D3 K G2 K2 G3) : D3 H G K2 G3 := by
  obtain ⟨⟨E, a1⟩, a2, a3⟩ := h
  obtain ⟨⟨E2, b1⟩, b2, b3⟩ := h2
  refine ⟨⟨E ++ E2, by rw [b1, a1, List.append_assoc]⟩, fun b x c n hb h9 ho => ?_, fun x => (b3 x).trans (a3 x)⟩
  rw [b2 b x c n (by rw [a1]; exact ga_app hb) h9 ho]
  exact a2 b x c n hb h9 ho
theorem D2_D3 {H K : e3_H} {G G2 : e3_G} (h : D2 H G K G2) : D3 H G K G2 := ⟨h.1, fun b x c n hb _ ho => h.2.1 b x c n hb ho, fun x => h.2.2 15 x (by decide)⟩
/-- a write below 139 and not at 15 -/
theorem D3_lo {H K : e3_H} {G : e3_G} (h : ∀ a x : Int, 139 ≤ a ∨ a = 15 → K a x = H a x) : D3 H G K G := ⟨⟨[], (List.append_nil _).symm⟩, fun b x _ _ _ h9 _ => h b x (Or.inl h9), fun x => h 15 x (Or.inr rfl)⟩
section FY3
variable {σ g : e3_H} {pn : Int → Int} {cnt m : Nat} {f fu r a lo hi : Int} {A : Int → Int} {L : List Int} {Vs : Int → Int → List (Int × Int)} {H K : e3_H} {G G2 : e3_G}
theorem FRu_3 (h : FRu σ g pn cnt r a H G lo hi L) (hr : D3 H G K G2) : FRu σ g pn cnt r a K G2 lo hi L := by
  obtain ⟨⟨E, r1⟩, r2, r3⟩ := hr
  obtain ⟨⟨u1, u2, u3, u4, u5, u6, u7, u8, u9⟩, h2, h3, h4, h5, h6, h7⟩ := h
  have ea : ∀ x : Int, K a x = H a x := fun x => r2 a x _ _ u1 u3 (okt_d (by decide) (by decide) (by decide) (Or.inl (by decide)))
  have ea1 : ∀ x : Int, K (a + 1) x = H (a + 1) x := fun x => r2 _ x _ _ u4 (by omega) ⟨by decide, by decide, by decide, by decide, Or.inl (by decide)⟩
  subst r1
  refine ⟨⟨ga_app u1, by rw [ea]; exact u2, u3, ga_app u4, by rw [ea]; exact u5, u6, fun k hk => by rw [ea1]; exact u7 k hk, u8, u9⟩, by rw [ea]; exact h2, ⟨by rw [ea]; exact h3.1, by rw [ea]; exact h3.2.1, by rw [ea]; exact h3.2.2⟩, h4, fun q q1 q2 => ?_, h6, h7⟩
  obtain ⟨hp, hq⟩ := h5 q q1 q2
  have e : ∀ k : Int, K (g 0 q) k = H (g 0 q) k := fun k => r2 _ k _ _ hp.1.2.1 hp.1.1 (okt_d (by decide) (by decide) (by decide) (Or.inl (by decide)))
  refine ⟨?_, by rw [e]; exact hq⟩
  exact c_pt_keep hp ⟨E, rfl⟩ (fun _ _ _ => rfl) (fun _ _ _ => rfl) (Int.le_refl _) (fun _ _ _ _ _ => rfl) (fun _ _ _ => rfl) (Int.le_refl _) q2 (Int.le_refl _) e
theorem RB_3 (h : RB σ g pn cnt m f fu A Vs H G) (hr : D3 H G K G2) : RB σ g pn cnt m f fu A Vs K G2 := by
  obtain ⟨b1, b2, b3, b4, ⟨b5, b6, b7, b8⟩, b9, b10⟩ := h
  obtain ⟨⟨E, r1⟩, r2, r3⟩ := id hr
  have ef : ∀ x : Int, x ≠ 10 → K fu x = H fu x := fun x hx => r2 fu x _ _ b1.2 b1.1 (okt_d (by decide) (by decide) (by decide) (Or.inr hx))
  refine ⟨⟨b1.1, by rw [r1]; exact ga_app b1.2⟩, ⟨by rw [ef _ (by decide)]; exact b2.1, by rw [r1]; exact ga_app b2.2⟩, by rw [ef _ (by decide)]; exact b3, b4, ⟨by rw [ef _ (by decide)]; exact b5, b6, by rw [ef _ (by decide)]; exact b7, by rw [ef _ (by decide), r1]; exact ga_app b8⟩, fun k hk => ?_, b10⟩
  obtain ⟨c1, c2, lo, hi, L, c3, c4⟩ := b9 k hk
  refine ⟨?_, c2, lo, hi, L, FRu_3 c3 hr, c4⟩
  rw [ef _ (by decide), r2 _ _ _ _ b8 b7 (okt_d (by decide) (by decide) (by decide) (Or.inl (by decide)))]
  exact c1
theorem pl_3 {cx : Int → Int} (h : c_pl H G fu cx) (hr : D3 H G K G2) : c_pl K G2 fu cx := by
  obtain ⟨⟨E, r1⟩, r2, r3⟩ := hr
  rw [r1]
  refine c_pl_eq2 h (fun a k ha => ?_)
  obtain ⟨y1, y2, L, y3, y4, _, y6, _⟩ := h
  have hL : ¬ ((0 : Nat) = 0 ∧ L = 120) := fun z => by omega
  rcases ha with ⟨z, z2⟩ | z | z
  · rw [z]; exact r2 _ k _ _ y2 y1 (okt_d (by decide) (by decide) (by decide) (Or.inr (by omega)))
  · rw [z]; exact r2 _ k _ _ y3.2 y3.1 ⟨by decide, by decide, hL, fun z => absurd z.1 (by decide), Or.inl (by decide)⟩
  · rw [z]; exact r2 _ k _ _ y4.2 y4.1 ⟨by decide, by decide, hL, fun z => absurd z.1 (by decide), Or.inl (by decide)⟩
theorem fc_3 {cols : Nat} {S : Nat → Int} (h9 : 139 ≤ fu) (hf : g_at G fu (108, 11)) (h : c_fc fu cols S g H G) (hr : D3 H G K G2) : c_fc fu cols S g K G2 := by
  obtain ⟨⟨E, r1⟩, r2, r3⟩ := hr
  obtain ⟨c1, ⟨c2, c3⟩, c4, c5⟩ := h
  have ef : ∀ x : Int, x ≠ 10 → K fu x = H fu x := fun x hx => r2 fu x _ _ hf h9 (okt_d (by decide) (by decide) (by decide) (Or.inr hx))
  refine ⟨by rw [ef _ (by decide)]; exact c1, by rw [ef _ (by decide), r1]; exact ⟨c2, ga_app c3⟩, c4, fun c hc => ?_⟩
  rw [ef _ (by decide), ef _ (by decide), r2 _ c _ _ c3 c2 ⟨by decide, by decide, by decide, by decide, Or.inl (by decide)⟩]
  exact c5 c hc
theorem rws_3 {B w0 : Int} {k0 : Nat} (h : c_rws f fu B cnt A Vs σ g pn k0 w0 H G) (h9 : 139 ≤ fu) (hf : g_at G (fu + 3) (6, 40)) (hr : D3 H G K G2) : c_rws f fu B cnt A Vs σ g pn k0 w0 K G2 := by
  obtain ⟨⟨E, r1⟩, r2, r3⟩ := hr
  intro k w hkw w0
  obtain ⟨a1, a2, a3⟩ := h k w hkw w0
  obtain ⟨o1, o2, o3, ⟨o4, o5⟩, ⟨o6, o7⟩, ⟨o8, o9⟩⟩ := id a2
  have e3 : ∀ x : Int, K (fu + 3) x = H (fu + 3) x := fun x => r2 _ x _ _ hf (by omega) (okt_d (by decide) (by decide) (by decide) (Or.inl (by decide)))
  refine ⟨by rw [e3]; exact a1, by rw [r1]; exact O_ob_eq a2 (fun x => r2 _ x _ _ o2 o1 (okt_d (by decide) (by decide) (by decide) (Or.inl (by decide)))), c_row_eq a3 (fun b x b1 b2 => ?_)⟩
  have hc : b = B + 4 * (rsum σ f k + w) ∨ b = B + 4 * (rsum σ f k + w) + 1 ∨ b = B + 4 * (rsum σ f k + w) + 2 ∨ b = B + 4 * (rsum σ f k + w) + 3 := by omega
  have hb9 : 139 ≤ b := by omega
  rcases hc with z | z | z | z
  · subst z; exact r2 _ x _ _ o2 hb9 (okt_d (by decide) (by decide) (by decide) (Or.inl (by decide)))
  · subst z; exact r2 _ x _ _ o5 hb9 ⟨by decide, by decide, by decide, by decide, Or.inl (by decide)⟩
  · subst z; exact r2 _ x _ _ o7 hb9 (okt_d (by decide) (by decide) (by decide) (Or.inl (by decide)))
  · subst z; exact r2 _ x _ _ o9 hb9 (okt_d (by decide) (by decide) (by decide) (Or.inl (by decide)))
end FY3
theorem FY_3 {σ g H K : e3_H} {G G2 : e3_G} {Vs : Int → Int → Int → List (Int × Int)} {f : Nat} (h : FY σ g Vs f H G) (hr : D3 H G K G2) : FY σ g Vs f K G2 := by
  obtain ⟨cx, pn, cnt, m, A, B, h1, h2, h3, h4, h5, h6, h7⟩ := h
  have e15 : K 15 f = H 15 f := hr.2.2 f
  have ef : ∀ x : Int, x ≠ 10 → K (H 15 f) x = H (H 15 f) x := fun x hx => hr.2.1 _ x _ _ h1.1.2 h1.1.1 (okt_d (by decide) (by decide) (by decide) (Or.inr hx))
  exact ⟨cx, pn, cnt, m, A, B, by rw [e15]; exact RB_3 h1 hr, h2, by rw [e15, ef 0 (by decide)]; exact h3, by rw [e15]; exact pl_3 h4 hr, by rw [e15]; exact fc_3 h1.1.1 h1.1.2 h5 hr, by rw [e15, ef 5 (by decide)]; exact h6, by rw [e15]; exact rws_3 h7 h1.1.1 h1.2.1.2 hr⟩
/-- a tree whose cells are kept -/
theorem TRE_k {t : Int} {H K : e3_H} {G G2 : e3_G} (h : TRE t H G) (hG : ∃ E, G2 = G ++ E) (e : ∀ x : Int, 4 ≤ x → x ≤ 9 → K t x = H t x) : TRE t K G2 := by
  obtain ⟨E, hE⟩ := hG
  subst hE
  obtain ⟨q, q0, ⟨p1, q1⟩, ⟨p2, q2⟩, ⟨p3, q3⟩, ⟨p4, q4⟩, ⟨p5, q5⟩, ⟨p6, q6⟩⟩ := h
  exact ⟨q, ga_app q0, ⟨by rw [e _ (by decide) (by decide)]; exact p1, ga_app q1⟩, ⟨by rw [e _ (by decide) (by decide)]; exact p2, ga_app q2⟩, ⟨by rw [e _ (by decide) (by decide)]; exact p3, ga_app q3⟩, ⟨by rw [e _ (by decide) (by decide)]; exact p4, ga_app q4⟩, ⟨by rw [e _ (by decide) (by decide)]; exact p5, ga_app q5⟩, ⟨by rw [e _ (by decide) (by decide)]; exact p6, ga_app q6⟩⟩
/-- all trees apart, over a write that leaves 15, 16, trees and FUNCTIONS -/
theorem TS_k {nf : Nat} {H K : e3_H} {G G2 : e3_G} (h : TS nf H G) (hG : ∃ E, G2 = G ++ E) (e15 : ∀ x : Int, K 15 x = H 15 x) (e1 : K 16 1 = H 16 1) (e4 : K 16 4 = H 16 4) (eF : ∀ f : Nat, f < nf → K (H 15 f) 10 = H (H 15 f) 10) (eT : ∀ t : Int, TRE t H G → ∀ x : Int, K t x = H t x) : TS nf K G2 := by
  obtain ⟨h1, h2, h3, ⟨kl, ⟨k1, k2⟩, k3, k4, k5⟩, h5⟩ := h
  refine ⟨by rw [e1]; exact TRE_k h1 hG (fun x _ _ => eT _ h1 x), fun f hf => ?_, fun f f' hf hf' hd => ?_, ⟨kl, ?_⟩, fun f hf => ?_⟩
  · rw [e15, eF f hf, e1]
    exact ⟨TRE_k (h2 f hf).1 hG (fun x _ _ => eT _ (h2 f hf).1 x), (h2 f hf).2⟩
  · rw [e15, e15, eF f hf, eF f' hf']
    exact h3 f f' hf hf' hd
  · obtain ⟨E, hE⟩ := hG
    rw [e4, e1, hE]
    exact ⟨⟨k1, ga_app k2⟩, k3, k4, k5⟩
  · rw [e15, eF f hf, e4]
    exact h5 f hf
theorem TDf_k {f : Nat} {way km : Int} {N : List a_ND} {H K : e3_H} {G G2 : e3_G} (h : TDf f way km N H G) (h9 : 139 ≤ H 15 f) (hf : g_at G (H 15 f) (108, 11)) (hr : D3 H G K G2) (e10 : K (H 15 f) 10 = H (H 15 f) 10) (e : ∀ a x : Int, H (H 15 f) 10 ≤ a → a ≤ H (H 15 f) 10 + 6 → K a x = H a x) : TDf f way km N K G2 := by
  obtain ⟨cx, cnt, h1, h2, h3, h4, h5, h6⟩ := h
  have e15 : K 15 f = H 15 f := hr.2.2 f
  have e7 : K (H 15 f) 7 = H (H 15 f) 7 := hr.2.1 _ 7 _ _ hf h9 (okt_d (by decide) (by decide) (by decide) (Or.inr (by decide)))
  refine ⟨cx, cnt, by rw [e15, e7]; exact h1, by rw [e15]; exact pl_3 h2 hr, ?_, ?_, ?_, ?_⟩
  · rw [e15, e10, e _ _ (Int.le_refl _) (by omega)]; exact h3
  · rw [e15, e10, e _ _ (Int.le_refl _) (by omega)]; exact h4
  · rw [e15, e10, e _ _ (Int.le_refl _) (by omega)]; exact h5
  · rw [e15, e10]; exact TC_all h6 (fun a x a1 a2 => e a x (by omega) a2)
