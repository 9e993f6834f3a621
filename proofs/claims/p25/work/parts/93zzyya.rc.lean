theorem frS_F {H K K2 : e3_H} (h : zF 34 39 H K) (f : frS K K2) : zF 34 39 H K2 := fun a x ha => (f.1 a x (by omega) (by omega) (by omega) (by omega)).trans (h a x ha)
section VRL
variable {Q : Int → e3_H → e3_G → Prop} {σ H : e3_H} {G : e3_G} {m nf : Nat} {S : Int → (Int → Int) → a_SO} {l2 : Int}
/-- one letter at one FUNCTION, by the tree or by the rules -/
def SCx (σ H : e3_H) (G : e3_G) (nf : Nat) (l2 : Int) (S : Int → (Int → Int) → a_SO) : Prop := ∀ (f : Nat) (K : e3_H) (n3 : Int) (L : List Int) (a : Int → Int) (Q : Int → e3_H → e3_G → Prop), f < nf → zF 34 39 H K → K 34 5 = (f : Int) → (∀ i : Int, 0 ≤ i → i < 3 → K 35 i = a i) → LTk σ H f a → (K 37 3 = n3 ∧ 0 ≤ n3 ∧ n3 ≤ 900000) → LGC L K → (L.length : Int) ≤ 900000 → (∀ x K2, SCo σ K (K 15 f) n3 L (S f a) x K2 → Q x K2 G) → (l2 = 0 → wS_byRules Q (K 15 f) K G) ∧ (¬ l2 = 0 → wS_byTree Q (K 15 f) K G)
theorem vS_29 (hG : zGC G) (h70 : ∀ f : Nat, f < nf → σ 70 f ≤ 16) (hT : TV σ m H) (hC : CLX σ m nf) (hX : ∀ K, zF 34 39 H K → RUX σ nf K G ∧ zLX K ∧ VR K) (hO : ∀ (f : Nat) (a : Int → Int), f < nf → LTk σ H f a → SOk σ H f (S f a)) (hS : SCx σ H G nf l2 S) : ∀ (n f l4 : Nat) (l3 n3 fp : Int) (L : List Int) (a : Int → Int) (K : e3_H), l4 + n = 101 → 1 ≤ l4 → f < nf → zF 34 39 H K → K 34 5 = (f : Int) → (∀ i : Int, 0 ≤ i → i < 3 → K 35 i = a i) → LTk σ H f a → (K 37 3 = n3 ∧ 0 ≤ n3 ∧ n3 ≤ 120 * ((l4 : Int) - 1)) → LGC L K → (L.length : Int) ≤ 120 * ((l4 : Int) - 1) → (K 37 0 = 0 ∧ K 37 1 = 0 ∧ K 37 2 = (l4 : Int) - 1 ∧ K 37 5 = fp) → (l4 = 1 → K 34 11 = 0 ∧ l3 = -4) → (∀ x K2, zF 34 39 H K2 → RCo (rn σ H S n f a l4 n3 L fp) K2 → (l4 ≠ 1 → x = l3 ∧ K2 34 11 = K 34 11 ∧ ∀ k : Int, K2 39 k = K 39 k) → (l4 = 1 → x = (if (S f a).1 = 0 then (S f a).2.1 % 16 else -4) ∧ BDc σ (S f a) K2) → Q x K2 G) → wS_run_29 Q (n + 1) l2 l3 (l4 : Int) K G := by
  intro n
  induction n with
  | zero =>
    intro f l4 l3 n3 fp L a K hl l1 hf fK h5 h35' hlt h3 hL hLn h0 h11 hQ
    refine brT (by omega) (fun H1 e1 H2 e2 => ?_)
    obtain ⟨a1, a2, a3, a4, a5, a6, a7⟩ := end_fr e1 e2
    refine hQ l3 H2 (frS_F fK a1) ⟨a2, ?_, ?_, by rw [a4]; exact h3.1, LGC_eq hL a5 (a6 9) a7, ?_, a3⟩ (fun _ => ⟨rfl, a6 11, fun k => a1.1 39 k (by decide) (by decide) (by decide) (by decide)⟩) (fun z => by omega)
    · rw [a1.2.2 1 (by decide) (by decide) (by decide) (by decide)]; exact h0.2.1
    · rw [a1.2.2 2 (by decide) (by decide) (by decide) (by decide)]; exact h0.2.2.1
    · rw [a1.2.2 5 (by decide) (by decide) (by decide) (by decide)]; exact h0.2.2.2
  | succ n ih =>
    intro f l4 l3 n3 fp L a K hl l1 hf fK h5 h35' hlt h3 hL hLn h0 h11 hQ
    obtain ⟨⟨x1, x2⟩, x3, x4⟩ := (hX K fK).1
    have hso := hO f a hf hlt
    refine brF (by omega) ?_
    rw [h5]
    refine vR_functionAt x3 ⟨by omega, by rw [x1]; omega⟩ ?_
    intro H7 e7 H8 e8
    have q7 : H7 34 5 = (f : Int) := by rw [e7, e3_up_ne (ne_1 (by decide))]; exact h5
    rw [q7] at e8
    have f8' : ∀ b x : Int, ¬ (b = 37 ∧ x = 2) → ¬ (b = 37 ∧ x = 5) → H8 b x = K b x := fun b x z1 z2 => by rw [e8, e3_up_ne z2, e7, e3_up_ne z1]
    have f8 : zF 34 39 H H8 := fun b x hb => (f8' b x (by omega) (by omega)).trans (fK b x hb)
    have e15 : K 15 f = H8 15 f := (f8' 15 f (by omega) (by omega)).symm
    have v2 : H8 37 2 = (l4 : Int) := by rw [e8, e3_up_ne (by decide), e7, e3_up_self]
    have v5 : H8 37 5 = (f : Int) := by rw [e8, e3_up_self]
    have fu0 : 139 ≤ K 15 f := (x3.2 f (by omega) (by rw [x1]; omega)).1.1
    have n162 : ∀ (k : Nat) (l3' ru ans n3' : Int) (L' : List Int) (K3 : e3_H), (S f a).1 = 0 → (S f a).2.1 = 16 * (f : Int) + k → k < 16 → σ 79 (S f a).2.1 ≠ 2 → (139 ≤ ru ∧ g_at G ru (109, 19)) → K3 ru 0 = (k : Int) → zF 34 39 H K3 → (K3 37 0 = 0 ∧ K3 37 2 = (l4 : Int) ∧ K3 37 5 = (f : Int)) → K3 37 3 = n3 + ((S f a).2.2.1 : Int) → LGC (L ++ (S f a).2.2.2.1) K3 → ans = (if σ 79 (S f a).2.1 = 1 then H 28 ((S f a).2.2.2.2 (σ 80 (S f a).2.1)) else σ 80 (S f a).2.1) → (∀ K4 : e3_H, zF 34 39 H K4 → RCo (rn σ H S (n + 1) f a l4 n3 L fp) K4 → K4 34 11 = K3 34 11 → (∀ x : Int, K4 39 x = K3 39 x) → Q l3' K4 G) → wS_run_162 Q l3' ru ans 1 K3 G := fun k l3' ru ans n3' L' K3 c0 cr ck c79 hru hr0 f3 p p3 pL hans hfin => by
      refine ⟨by decide, fun H1 e1 => ⟨ga_ob (c := 9) hru.2, fun H3 e3 => ?_⟩⟩
      have r0 : H1 ru 0 = (k : Int) := by rw [e1, e3_up_ne (ne_1 (by omega))]; exact hr0
      rw [r0] at e3
      have g : ∀ b x : Int, ¬ (b = 37 ∧ x = 1) → ¬ (b = 37 ∧ x = 6) → H3 b x = K3 b x := fun b x z1 z2 => by rw [e3, e3_up_ne z2, e1, e3_up_ne z1]
      refine hfin H3 (fun b x hb => (g b x (by omega) (by omega)).trans (f3 b x hb)) ?_ (g 34 11 (by decide) (by decide)) (fun x => g 39 x (ne_1 (by decide)) (ne_1 (by decide)))
      have er : rn σ H S (n + 1) f a l4 n3 L fp = (0, (if σ 79 (S f a).2.1 = 1 then H 28 ((S f a).2.2.2.2 (σ 80 (S f a).2.1)) else σ 80 (S f a).2.1), (l4 : Int), n3 + ((S f a).2.2.1 : Int), L ++ (S f a).2.2.2.1, (f : Int), (S f a).2.1 % 16) := by
        show (if (S f a).1 = 0 then (if σ 79 (S f a).2.1 = 2 then _ else _) else _) = _
        rw [if_pos c0, if_neg c79]
      rw [er]
      refine ⟨by rw [g 37 0 (by decide) (by decide)]; exact p.1, ?_, by rw [g 37 2 (by decide) (by decide)]; exact p.2.1, by rw [g 37 3 (by decide) (by decide)]; exact p3, LGC_eq pL (g 37 4 (by decide) (by decide)) (g 34 9 (by decide) (by decide)) (fun x => g 38 x (ne_1 (by decide)) (ne_1 (by decide))), by rw [g 37 5 (by decide) (by decide)]; exact p.2.2, ?_⟩
      · rw [e3, e3_up_ne (by decide), e1, e3_up_self]; exact hans
      · rw [e3, e3_up_self]
        show (k : Int) = (S f a).2.1 % 16
        rw [cr]
        omega
    have n122 : ∀ (k : Nat) (l3' : Int) (K3 : e3_H), (S f a).1 = 0 → (S f a).2.1 = 16 * (f : Int) + k → (k : Int) < σ 70 f → k < 16 → zF 34 39 H K3 → (∀ i : Int, 0 ≤ i → i < 3 → K3 35 i = a i) → (∀ j : Int, 0 ≤ j → j < σ 56 (S f a).2.1 → K3 36 j = (S f a).2.2.2.2 j) → (K3 37 0 = 0 ∧ K3 37 2 = (l4 : Int) ∧ K3 37 5 = (f : Int)) → K3 37 1 = 0 → K3 37 3 = n3 + ((S f a).2.2.1 : Int) → LGC (L ++ (S f a).2.2.2.1) K3 → (∀ K4 : e3_H, zF 34 39 H K4 → RCo (rn σ H S (n + 1) f a l4 n3 L fp) K4 → K4 34 11 = K3 34 11 → (∀ x : Int, K4 39 x = K3 39 x) → Q l3' K4 G) → wS_run_122 Q (fun l2 l3 l4 H G => wS_run_29 Q (n + 1) l2 l3 l4 H G) l2 l3' (l4 : Int) (K3 (K3 (K3 15 f) 4) k) K3 G := fun k l3' K3 c0 cr ck ck2 f3 a3 nm p p1 p3 pL hfin => by
      obtain ⟨⟨⟨y1, y2⟩, y3, y4⟩, y5, y6⟩ := hX K3 f3
      obtain ⟨_, _, w3, w4, w5, w6⟩ := y4 f k hf ck
      obtain ⟨cc1, cc2, cc3⟩ := hC f k hf ck
      have hBn := (hso.2 c0).2
      rw [← cr] at w3 w5 cc1 cc2 cc3
      have o := ga_ob (c := 9) w6.2.1
      have lb : (L ++ (S f a).2.2.2.1).length = L.length + (S f a).2.2.2.1.length := List.length_append
      have hs120 := hso.1
      refine ⟨o, ?_⟩
      rw [w3.1]
      rcases w3.2 with ⟨z1, z2⟩ | ⟨z1, z2, z3, z4⟩ | ⟨z1, z2, z3, z4, z5⟩
      · refine brF (by omega) ⟨o, brF (by omega) ⟨o, ?_⟩⟩
        rw [z2]
        exact n162 k l3' _ _ 0 [] K3 c0 cr ck2 (by omega) ⟨w6.1, w6.2.1⟩ w4 f3 p p3 pL (by rw [if_neg (by omega)]) hfin
      · refine brF (by omega) ⟨o, brT z1 ⟨o, ?_⟩⟩
        rw [z2]
        have hn : (((σ 80 (S f a).2.1).toNat : Nat) : Int) = σ 80 (S f a).2.1 := by omega
        have ho := hBn (σ 80 (S f a).2.1).toNat (by omega)
        rw [hn, z4] at ho
        have e36 := nm (σ 80 (S f a).2.1) z3.1 z3.2
        have t27 := (oks_wh hT ho).1 (by decide)
        have i32 := ((hT.1.2 _ ho.1.1 ho.1.2).2.1 (by omega)).2.2
        have e28 : ∀ x : Int, K3 28 x = H 28 x := fun x => f3 28 x (by decide)
        refine vS_numberHeld y5 ⟨z3.1, by omega⟩ (by rw [e36]; exact ⟨ho.1.1, by rw [f3 26 1 (by decide)]; exact ho.1.2⟩) (by rw [e36, e28]; exact i32) ?_
        rw [e36, e28]
        exact n162 k l3' _ _ 0 [] K3 c0 cr ck2 (by omega) ⟨w6.1, w6.2.1⟩ w4 f3 p p3 pL (by rw [if_pos z1]) hfin
      · obtain ⟨d1, d2, d3, d4⟩ := cc1 z1
        refine brT z1 (vS_handOver (σ := σ) (r := (S f a).2.1) (a := a) (B := (S f a).2.2.2.2) w6 ⟨z3, z4, by omega⟩ z2 z5 (fun i hi => ?_) a3 (fun K4 g1 g2 g3 => ?_))
        · obtain ⟨⟨u1, u2⟩, _⟩ := d4 i hi
          exact ⟨u1, by omega, nm _ u1 u2⟩
        · rw [e3_w32_id (x := (l4 : Int) + 1) (by omega) (by omega), show (l4 : Int) + 1 = ((l4 + 1 : Nat) : Int) by omega]
          have hg : (((σ 80 (S f a).2.1).toNat : Nat) : Int) = σ 80 (S f a).2.1 := by omega
          have lt2 : LTk σ H (σ 80 (S f a).2.1) (lth σ (S f a).2.1 (S f a).2.2.2.2 a) := by
            have := lth_ok (a := a) (B := (S f a).2.2.2.2) hT hC hf ck (by rw [← cr]; exact z1) (by rw [← cr]; exact hBn)
            rw [← cr] at this
            exact this
          have g : ∀ x : Int, K4 37 x = K3 37 x := fun x => g1 37 x (by decide) (by omega)
          refine ih (σ 80 (S f a).2.1).toNat (l4 + 1) l3' (n3 + ((S f a).2.2.1 : Int)) f (L ++ (S f a).2.2.2.1) (lth σ (S f a).2.1 (S f a).2.2.2.2 a) K4 (by omega) (by omega) (by omega) (fun b x hb => (g1 b x (by omega) (by omega)).trans (f3 b x hb)) (by rw [hg]; exact g2) g3 (by rw [hg]; exact lt2) ⟨by rw [g]; exact p3, by omega, by omega⟩ (LGC_eq pL (g 4) (g1 34 9 (by decide) (by decide)) (fun x => g1 38 x (by decide) (by omega))) (by rw [lb]; omega) ⟨by rw [g]; exact p.1, by rw [g]; exact p1, by rw [g, p.2.1]; omega, by rw [g]; exact p.2.2⟩ (fun z => by omega) (fun x K5 r1 r2 r3 _ => ?_)
          obtain ⟨s1, s2, s3⟩ := r3 (by omega)
          rw [s1]
          refine hfin K5 r1 ?_ (s2.trans (g1 34 11 (by decide) (by decide))) (fun x => (s3 x).trans (g1 39 x (by decide) (by omega)))
          have er : rn σ H S (n + 1) f a l4 n3 L fp = rn σ H S n (σ 80 (S f a).2.1) (lth σ (S f a).2.1 (S f a).2.2.2.2 a) ((l4 : Int) + 1) (n3 + ((S f a).2.2.1 : Int)) (L ++ (S f a).2.2.2.1) f := by
            show (if (S f a).1 = 0 then (if σ 79 (S f a).2.1 = 2 then _ else _) else _) = _
            rw [if_pos c0, if_pos z1]
          rw [hg, show ((l4 + 1 : Nat) : Int) = (l4 : Int) + 1 by omega] at r2
          rw [er]
          exact r2
    refine brF (by omega) ?_
    rw [e15]
    have go : ∀ x K2, SCo σ H8 (H8 15 f) n3 L (S f a) x K2 → wS_run_95 Q (fun l2 l3 l4 H G => wS_run_29 Q (n + 1) l2 l3 l4 H G) l2 l3 (l4 : Int) x K2 G := fun x K2 hc => by
      obtain ⟨fr, g3, gL, hcase⟩ := hc
      have f2 := frS_F f8 fr
      have b2 : K2 37 2 = (l4 : Int) := by rw [fr.2.2 2 (by decide) (by decide) (by decide) (by decide)]; exact v2
      have b5 : K2 37 5 = (f : Int) := by rw [fr.2.2 5 (by decide) (by decide) (by decide) (by decide)]; exact v5
      have b1 : K2 37 1 = 0 := by rw [fr.2.2 1 (by decide) (by decide) (by decide) (by decide), f8' 37 1 (by decide) (by decide)]; exact h0.2.1
      have b11 : K2 34 11 = K 34 11 := by rw [fr.2.1 11 (by decide) (by decide), f8' 34 11 (by decide) (by decide)]
      have b39 : ∀ k : Int, K2 39 k = K 39 k := fun k => by rw [fr.1 39 k (by decide) (by decide) (by decide) (by decide), f8' 39 k (by omega) (by omega)]
      have fin : (S f a).1 ≠ 0 → x = -1 → K2 37 0 = (S f a).1 → K2 37 6 = (if (S f a).1 = 3 then (S f a).2.1 % 16 else -4) → wS_run_95 Q (fun l2 l3 l4 H G => wS_run_29 Q (n + 1) l2 l3 l4 H G) l2 l3 (l4 : Int) x K2 G := fun z zx z0 z6 => by
        have er : rn σ H S (n + 1) f a l4 n3 L fp = ((S f a).1, 0, (l4 : Int), n3 + ((S f a).2.2.1 : Int), L ++ (S f a).2.2.2.1, (f : Int), if (S f a).1 = 3 then (S f a).2.1 % 16 else -4) := by
          show (if (S f a).1 = 0 then _ else _) = _
          rw [if_neg z]
        refine brT (by omega) (hQ l3 K2 f2 ?_ (fun _ => ⟨rfl, b11, b39⟩) (fun y => ⟨?_, fun u => absurd u z, fun _ => ?_⟩))
        · rw [er]
          exact ⟨z0, b1, b2, g3, gL, b5, z6⟩
        · rw [if_neg z]; exact (h11 y).2
        · rw [b11]; exact (h11 y).1
      rcases hcase with ⟨c0, cx, nm, c37⟩ | ⟨c12, cx, d0, d6⟩ | ⟨c3, cx, d0, d6⟩
      · obtain ⟨hr1, hBn⟩ := hso.2 c0
        obtain ⟨k, ek⟩ : ∃ k : Nat, (S f a).2.1 = 16 * (f : Int) + k := ⟨((S f a).2.1 - 16 * f).toNat, by omega⟩
        have hk : (k : Int) < σ 70 f := by omega
        obtain ⟨⟨y1, y2⟩, y3, y4⟩ := (hX K2 f2).1
        obtain ⟨u1, u2, _, w4, w5, w6⟩ := y4 f k hf hk
        have k16 : k < 16 := by
          have := h70 f hf
          omega
        have exr : x = K2 (K2 (K2 15 f) 4) k := by
          have r16 : (S f a).2.1 % 16 = (k : Int) := by omega
          have q15 : K2 15 f = H8 15 f := fr.1 15 f (by decide) (by decide) (by decide) (by decide)
          rw [cx, r16, q15]
          rw [q15] at u1 u2
          have q4 : K2 (H8 15 f) 4 = H8 (H8 15 f) 4 := fr.1 _ 4 (by omega) (by omega) (by omega) (by omega)
          rw [q4] at u1
          rw [q4, fr.1 _ k (by omega) (by omega) (by omega) (by omega)]
        have p0 : K2 37 0 = 0 := by rw [c37, f8' 37 0 (by decide) (by decide)]; exact h0.1
        have p35 : ∀ i : Int, 0 ≤ i → i < 3 → K2 35 i = a i := fun i i0 i1 => by rw [fr.1 35 i (by decide) (by decide) (by decide) (by decide), f8' 35 i (by omega) (by omega)]; exact h35' i i0 i1
        have o := ga_ob (c := 9) w6.2.1
        have x0 : 139 ≤ x := by rw [exr]; exact w6.1
        refine brF (by omega) ⟨fun y => ?_, fun y => ?_⟩
        · have y : l4 = 1 := by omega
          rw [exr]
          refine ⟨o, vS_keepBound hG ⟨w6.1, w6.2.1⟩ w5 (fun K3 g1 g2 g4 => ?_)⟩
          have f3 : zF 34 39 H K3 := fun b z hb => (g1 b z (by omega) (by omega)).trans (f2 b z hb)
          have e3' : K2 (K2 (K2 15 f) 4) k = K3 (K3 (K3 15 f) 4) k := by
            rw [g1 15 f (by decide) (by omega), g1 (K2 15 f) 4 (by omega) (by omega), g1 _ k (by omega) (by omega)]
          rw [w4, e3']
          refine n122 k k K3 c0 ek hk k16 f3 (fun i i0 i1 => by rw [g1 35 i (by decide) (by omega)]; exact p35 i i0 i1) (fun j j0 j1 => by rw [g1 36 j (by decide) (by omega)]; exact nm j j0 j1) ⟨by rw [g1 37 0 (by decide) (by decide)]; exact p0, by rw [g1 37 2 (by decide) (by decide)]; exact b2, by rw [g1 37 5 (by decide) (by decide)]; exact b5⟩ (by rw [g1 37 1 (by decide) (by decide)]; exact b1) (by rw [g1 37 3 (by decide) (by decide)]; exact g3) (LGC_eq gL (g1 37 4 (by decide) (by decide)) (g1 34 9 (by decide) (by decide)) (fun z => g1 38 z (by decide) (by omega))) (fun K4 q1 q2 q3 q4 => hQ k K4 q1 q2 (fun z => absurd y z) (fun _ => ⟨?_, fun _ => ⟨?_, fun j j0 j1 => ?_⟩, fun z => absurd c0 z⟩))
          · rw [if_pos c0]; omega
          · rw [q3, g2, ek]
          · rw [q4, g4 j j0 (by have := w5.2.2; rw [ek] at j1; omega)]; exact nm j j0 j1
        · have y : l4 ≠ 1 := by omega
          rw [exr]
          exact n122 k l3 K2 c0 ek hk k16 f2 p35 nm ⟨p0, b2, b5⟩ b1 g3 gL (fun K4 q1 q2 q3 q4 => hQ l3 K4 q1 q2 (fun _ => ⟨rfl, q3.trans b11, fun z => (q4 z).trans (b39 z)⟩) (fun z => absurd z y))
      · exact fin (by omega) cx d0 (by rw [if_neg (by omega)]; exact d6)
      · exact fin (by omega) cx (by omega) (by rw [if_pos c3]; exact d6)
    have hst := hS f H8 n3 L a (fun x K2 G2 => wS_run_95 Q (fun l2 l3 l4 H G => wS_run_29 Q (n + 1) l2 l3 l4 H G) l2 l3 (l4 : Int) x K2 G2) hf f8 (by rw [f8' 34 5 (by decide) (by decide)]; exact h5) (fun i i0 i1 => by rw [f8' 35 i (by omega) (by omega)]; exact h35' i i0 i1) hlt ⟨by rw [f8' 37 3 (by decide) (by decide)]; exact h3.1, h3.2.1, by omega⟩ (LGC_eq hL (f8' 37 4 (by decide) (by decide)) (f8' 34 9 (by decide) (by decide)) (fun x => f8' 38 x (by omega) (by omega))) (by omega) go
    exact hst
end VRL
