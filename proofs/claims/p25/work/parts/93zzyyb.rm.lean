/-- one letter at one FUNCTION in the reference, by the tree or by the rules -/
def SMx (σ H : e3_H) (G : e3_G) (nf : Nat) (l5 : Int) (S : Int → (Int → Int) → a_SO) : Prop := ∀ (f : Nat) (K : e3_H) (n3 : Int) (L : List Int) (a : Int → Int) (Q : Int → e3_H → e3_G → Prop), f < nf → zR H K → z6 (H 40 109) K → (∀ i : Int, 0 ≤ i → i < 3 → K 135 i = a i) → LTk σ H f a → (K 40 122 = n3 ∧ 0 ≤ n3 ∧ n3 ≤ 900000) → LGM L K → (L.length : Int) ≤ 900000 → (∀ x K2, SMo σ K n3 L (S f a) x K2 → Q x K2 G) → (l5 = 0 → wM_byRules Q f K G) ∧ (¬ l5 = 0 → wM_byTree Q f K G)
/-- a run of the reference, between two calls of FUNCTIONS -/
def RMI (σ H : e3_H) (nf t f : Nat) (n3 : Int) (L : List Int) (a : Int → Int) (K : e3_H) : Prop := f < nf ∧ zR H K ∧ z6 (H 40 109) K ∧ (∀ i : Int, 0 ≤ i → i < 3 → K 135 i = a i) ∧ LTk σ H f a ∧ (K 40 122 = n3 ∧ 0 ≤ n3 ∧ n3 ≤ 120 * (t : Int)) ∧ LGM L K ∧ (L.length : Int) ≤ 120 * (t : Int) ∧ K 40 119 = 0 ∧ K 40 120 = 0 ∧ K 40 121 = (t : Int)
section NRN
variable {Q : Int → e3_H → e3_G → Prop} {σ H : e3_H} {G : e3_G} {m nf : Nat} {S : Int → (Int → Int) → a_SO} {l5 : Int}
theorem nM_152s {nn n t f : Nat} {l6 n3 fp : Int} {L : List Int} {a : Int → Int} {K : e3_H} (h12 : nf ≤ 12) (h70 : ∀ f : Nat, f < nf → σ 70 f ≤ 16) (hT : TV σ m H) (htb : tb σ H) (hC : CLX σ m nf) (h56 : ∀ f k : Nat, f < nf → (k : Int) < σ 70 f → 0 ≤ σ 56 (16 * (f : Int) + k) ∧ σ 56 (16 * (f : Int) + k) ≤ 8) (h160 : H 40 109 ≤ 160) (hO : ∀ (f : Nat) (a : Int → Int), f < nf → LTk σ H f a → SOk σ H f (S f a)) (hS : SMx σ H G nf l5 S) (htn : t + n = 99) (hI : RMI σ H nf t f n3 L a K) (h0 : t = 0 → K 40 128 = 0 ∧ l6 = -4)
    (hN : t + 1 ≤ 99 → ∀ (f' : Nat) (l6' n3' : Int) (L' : List Int) (a' : Int → Int) (K' : e3_H), RMI σ H nf (t + 1) f' n3' L' a' K' → (∀ x K2, zR H K2 → z6 (H 40 109) K2 → RMo (rn σ H S n f' a' ((t : Int) + 2) n3' L' f) K2 → x = l6' → K2 40 128 = K' 40 128 → (∀ k : Int, K2 138 k = K' 138 k) → Q x K2 G) → wM_runs_152 Q (nn + 1) l5 l6' f' 1 K' G)
    (hQ : ∀ x K2, zR H K2 → z6 (H 40 109) K2 → RMo (rn σ H S (n + 1) f a ((t : Int) + 1) n3 L fp) K2 → (t ≠ 0 → x = l6 ∧ K2 40 128 = K 40 128 ∧ ∀ k : Int, K2 138 k = K 138 k) → (t = 0 → x = (if (S f a).1 = 0 then (S f a).2.1 % 16 else -4) ∧ BDm σ (S f a) K2) → Q x K2 G) : wM_runs_152 Q (nn + 2) l5 l6 f 1 K G := by
  obtain ⟨hf, rK, sK, h5, hlt, h122, hL, hLn, h119, h120, h121⟩ := hI
  have hso := hO f a hf hlt
  refine brF (by decide) (fun H2 e2 H3 e3 H4 e4 => ?_)
  rw [h121, w_p1 (by omega)] at e2
  have r4 : zR H H4 := by rw [e4, e3, e2]; exact zR_up (zR_up (zR_up rK (by omega)) (by omega)) (by omega)
  have s4 : z6 (H 40 109) H4 := by rw [e4, e3, e2]; exact z6_up (z6_up (z6_up sK (Or.inl (by decide))) (Or.inl (by decide))) (Or.inl (by decide))
  have a4 : ∀ a k : Int, a ≠ 40 → H4 a k = K a k := fun a k ha => by rw [e4, e3_up_ne (ne_1 ha), e3, e3_up_ne (ne_1 ha), e2, e3_up_ne (ne_1 ha)]
  have b4 : ∀ k : Int, k ≠ 121 → k ≠ 124 → k ≠ 125 → H4 40 k = K 40 k := fun k k1 k2 k3 => by rw [e4, e3_up_ne (ne_2 k3), e3, e3_up_ne (ne_2 k2), e2, e3_up_ne (ne_2 k1)]
  have c4 : H4 40 121 = ((t + 1 : Nat) : Int) := by rw [e4, e3_up_ne (ne_2 (by decide)), e3, e3_up_ne (ne_2 (by decide)), e2]; exact e3_up_self ..
  have c124 : H4 40 124 = (f : Int) := by rw [e4, e3_up_ne (ne_2 (by decide)), e3, e3_up_self]
  have c125 : H4 40 125 = -4 := by rw [e4, e3_up_self]
  have cc : H4 40 109 = H 40 109 := r4.2 109 (by decide) (by decide)
  have L4 : LGM L H4 := LGM_eq hL (b4 123 (by decide) (by decide) (by decide)) (fun x => a4 137 x (by decide))
  have hs120 := hso.1
  have lb : (L ++ (S f a).2.2.2.1).length = L.length + (S f a).2.2.2.1.length := List.length_append
  -- the end
  have nE : ∀ (l6' l7 : Int) (P : e3_H), zR H P → z6 (H 40 109) P → RM0 (rn σ H S (n + 1) f a ((t : Int) + 1) n3 L fp) P → (∀ K2 : e3_H, zR H K2 → z6 (H 40 109) K2 → RMo (rn σ H S (n + 1) f a ((t : Int) + 1) n3 L fp) K2 → K2 40 128 = P 40 128 → (∀ k : Int, K2 138 k = P 138 k) → Q l6' K2 G) → wM_runs_152 Q (nn + 1) l5 l6' l7 0 P G := fun l6' l7 P rP sP hP hfin => by
    refine brT rfl (fun H1 e1 => ?_)
    have x1 : ∀ k : Int, k ≠ 126 → H1 40 k = P 40 k := fun k hk => by rw [e1, e3_up_ne (ne_2 hk)]
    have y1 : ∀ a k : Int, a ≠ 40 → H1 a k = P a k := fun a k ha => by rw [e1, e3_up_ne (ne_1 ha)]
    obtain ⟨p1, p2, p3, p4, p5, p6, p7⟩ := hP
    exact hfin H1 (by rw [e1]; exact zR_up rP (by omega)) (by rw [e1]; exact z6_up sP (Or.inl (by decide))) ⟨(x1 119 (by decide)).trans p1, (x1 120 (by decide)).trans p2, (x1 121 (by decide)).trans p3, (x1 122 (by decide)).trans p4, LGM_eq p5 (x1 123 (by decide)) (fun x => y1 137 x (by decide)), (x1 124 (by decide)).trans p6, (x1 125 (by decide)).trans p7, by rw [e1, e3_up_self]⟩ (x1 128 (by decide)) (fun k => y1 138 k (by decide))
  have n270 : ∀ (k : Nat) (l6' : Int) (P : e3_H), (S f a).1 = 0 → (S f a).2.1 = 16 * (f : Int) + k → (k : Int) < σ 70 f → zR H P → z6 (H 40 109) P → (∀ i : Int, 0 ≤ i → i < 3 → P 135 i = a i) → (∀ j : Int, 0 ≤ j → j < σ 56 (S f a).2.1 → P 136 j = (S f a).2.2.2.2 j) → P 40 119 = 0 → P 40 120 = 0 → P 40 121 = ((t + 1 : Nat) : Int) → P 40 122 = n3 + ((S f a).2.2.1 : Int) → LGM (L ++ (S f a).2.2.2.1) P → P 40 124 = (f : Int) → P 40 125 = -4 → (∀ K2 : e3_H, zR H K2 → z6 (H 40 109) K2 → RMo (rn σ H S (n + 1) f a ((t : Int) + 1) n3 L fp) K2 → K2 40 128 = P 40 128 → (∀ j : Int, K2 138 j = P 138 j) → Q l6' K2 G) → wM_runs_270 Q (fun l5 l6 l7 l8 H G => wM_runs_152 Q (nn + 1) l5 l6 l7 l8 H G) l5 l6' f 0 (S f a).2.1 P G := fun k l6' P c0 cr ck rP sP aP nm p119 p120 p121 p122 pL p124 p125 hfin => by
    obtain ⟨cc1, cc2, cc3⟩ := hC f k hf ck
    have hBn := (hso.2 c0).2
    have w56 := h56 f k hf ck
    have h7 := h70 f hf
    rw [← cr] at cc1 cc2 cc3 w56
    have tP := tb_zR htb rP
    have ir : 0 ≤ (S f a).2.1 ∧ (S f a).2.1 < 192 := by omega
    refine ⟨ir, ?_⟩
    rw [tP 79 _ (by decide) (by decide) (by decide)]
    refine ⟨fun z => ⟨by decide, fun P2 f2 => ⟨ir, ?_⟩⟩, fun z => ?_⟩
    · rw [e3_rem_id ⟨ir.1, by omega⟩ (by decide)] at f2
      have r2 : zR H P2 := by rw [f2]; exact zR_up rP (by omega)
      have s2 : z6 (H 40 109) P2 := by rw [f2]; exact z6_up sP (Or.inl (by decide))
      have t2 := tb_zR htb r2
      have x2 : ∀ k : Int, k ≠ 125 → P2 40 k = P 40 k := fun k hk => by rw [f2, e3_up_ne (ne_2 hk)]
      have y2 : ∀ a k : Int, a ≠ 40 → P2 a k = P a k := fun a k ha => by rw [f2, e3_up_ne (ne_1 ha)]
      have n328 : ∀ v : Int, v = (if σ 79 (S f a).2.1 = 1 then H 28 ((S f a).2.2.2.2 (σ 80 (S f a).2.1)) else σ 80 (S f a).2.1) → wM_runs_328 Q (fun l5 l6 l7 l8 H G => wM_runs_152 Q (nn + 1) l5 l6 l7 l8 H G) l5 l6' f 0 v P2 G := fun v hv => fun P1 f1 => by
        have x1 : ∀ k : Int, k ≠ 120 → k ≠ 125 → P1 40 k = P 40 k := fun k hk hk2 => by rw [f1, e3_up_ne (ne_2 hk)]; exact x2 k hk2
        have y1 : ∀ a k : Int, a ≠ 40 → P1 a k = P a k := fun a k ha => by rw [f1, e3_up_ne (ne_1 ha)]; exact y2 a k ha
        have er : rn σ H S (n + 1) f a ((t : Int) + 1) n3 L fp = (0, (if σ 79 (S f a).2.1 = 1 then H 28 ((S f a).2.2.2.2 (σ 80 (S f a).2.1)) else σ 80 (S f a).2.1), (t : Int) + 1, n3 + ((S f a).2.2.1 : Int), L ++ (S f a).2.2.2.1, (f : Int), (S f a).2.1 % 16) := by
          show (if (S f a).1 = 0 then (if σ 79 (S f a).2.1 = 2 then _ else _) else _) = _
          rw [if_pos c0, if_neg (by omega)]
        have rP1 : zR H P1 := by rw [f1]; exact zR_up r2 (by omega)
        have sP1 : z6 (H 40 109) P1 := by rw [f1]; exact z6_up s2 (Or.inl (by decide))
        refine nE l6' f P1 rP1 sP1 ?_ (fun K2 q1 q2 q3 q4 q5 => hfin K2 q1 q2 q3 (q4.trans (x1 128 (by decide) (by decide))) (fun j => (q5 j).trans (y1 138 j (by decide))))
        rw [er]
        refine ⟨(x1 119 (by decide) (by decide)).trans p119, ?_, ?_, (x1 122 (by decide) (by decide)).trans p122, LGM_eq pL (x1 123 (by decide) (by decide)) (fun x => y1 137 x (by decide)), (x1 124 (by decide) (by decide)).trans p124, ?_⟩
        · rw [f1, e3_up_self]; exact hv
        · rw [x1 121 (by decide) (by decide), p121]
          show ((t + 1 : Nat) : Int) = (t : Int) + 1
          omega
        · rw [f1, e3_up_ne (by decide), f2, e3_up_self]
      rw [t2 79 _ (by decide) (by decide) (by decide), t2 80 _ (by decide) (by decide) (by decide)]
      refine ⟨fun z0 => ⟨ir, n328 _ (by rw [if_neg (by omega)])⟩, fun z1 => ⟨ir, ?_⟩⟩
      have z79 : σ 79 (S f a).2.1 = 1 := by omega
      obtain ⟨d1, d2⟩ := cc2 z79
      have hn : (((σ 80 (S f a).2.1).toNat : Nat) : Int) = σ 80 (S f a).2.1 := by omega
      have ho := hBn (σ 80 (S f a).2.1).toNat (by omega)
      rw [hn, d2] at ho
      have e136 : P2 136 (σ 80 (S f a).2.1) = (S f a).2.2.2.2 (σ 80 (S f a).2.1) := (y2 136 _ (by decide)).trans (nm _ d1.1 d1.2)
      have t27 := (oks_wh hT ho).1 (by decide)
      have e129 := ((hT.1.2 _ ho.1.1 ho.1.2).2.1 (by omega)).1
      have c26 := hT.1.1
      rw [e136]
      refine ⟨⟨d1.1, by omega⟩, ⟨ho.1.1, by have := ho.1.2; omega⟩, n328 _ ?_⟩
      rw [if_pos z79, r2.1 129 _ (by decide) (by decide)]
      exact e129.symm
    · have z2 : σ 79 (S f a).2.1 = 2 := by omega
      obtain ⟨d1, d2, d3, d4⟩ := cc1 z2
      have hg : (((σ 80 (S f a).2.1).toNat : Nat) : Int) = σ 80 (S f a).2.1 := by omega
      have er : rn σ H S (n + 1) f a ((t : Int) + 1) n3 L fp = rn σ H S n (σ 80 (S f a).2.1) (lth σ (S f a).2.1 (S f a).2.2.2.2 a) ((t : Int) + 1 + 1) (n3 + ((S f a).2.2.1 : Int)) (L ++ (S f a).2.2.2.1) f := by
        show (if (S f a).1 = 0 then (if σ 79 (S f a).2.1 = 2 then _ else _) else _) = _
        rw [if_pos c0, if_pos z2]
      refine ⟨fun z100 => fun P9 f9 => ?_, fun z100 => ⟨4, ?_⟩⟩
      · have n0 : n = 0 := by rw [p121] at z100; omega
        have x9 : ∀ k : Int, k ≠ 119 → P9 40 k = P 40 k := fun k hk => by rw [f9, e3_up_ne (ne_2 hk)]
        have y9 : ∀ a k : Int, a ≠ 40 → P9 a k = P a k := fun a k ha => by rw [f9, e3_up_ne (ne_1 ha)]
        refine nE l6' f P9 (by rw [f9]; exact zR_up rP (by omega)) (by rw [f9]; exact z6_up sP (Or.inl (by decide))) ?_ (fun K2 q1 q2 q3 q4 q5 => hfin K2 q1 q2 q3 (q4.trans (x9 128 (by decide))) (fun j => (q5 j).trans (y9 138 j (by decide))))
        rw [er, n0]
        refine ⟨by rw [f9, e3_up_self]; rfl, (x9 120 (by decide)).trans p120, ?_, (x9 122 (by decide)).trans p122, LGM_eq pL (x9 123 (by decide)) (fun x => y9 137 x (by decide)), (x9 124 (by decide)).trans p124, (x9 125 (by decide)).trans p125⟩
        rw [x9 121 (by decide), p121]
        show ((t + 1 : Nat) : Int) = (t : Int) + 1 + 1 - 1
        omega
      · have t98 : t + 1 ≤ 99 := by rw [p121] at z100; omega
        have lt2 : LTk σ H (σ 80 (S f a).2.1) (lth σ (S f a).2.1 (S f a).2.2.2.2 a) := by
          have := lth_ok (a := a) (B := (S f a).2.2.2.2) hT hC hf ck (by rw [← cr]; exact z2) (by rw [← cr]; exact hBn)
          rw [← cr] at this
          exact this
        have cp : ∀ (e l : Nat) (P1 : e3_H), l + e = 3 → (l : Int) ≤ σ 83 (S f a).2.1 → (∀ b x : Int, b ≠ 135 → P1 b x = P b x) → (∀ i : Int, 0 ≤ i → i < 3 → P1 135 i = if i < (l : Int) then (S f a).2.2.2.2 (σ 84 (3 * (S f a).2.1 + i)) else a i) → wM_runs_354 Q (fun l5 l6 l7 l8 H G => wM_runs_152 Q (nn + 1) l5 l6 l7 l8 H G) (e + 1) l5 l6' (S f a).2.1 (l : Int) P1 G := by
          have fin : ∀ (l : Nat) (P1 : e3_H), (l : Int) = σ 83 (S f a).2.1 → (∀ b x : Int, b ≠ 135 → P1 b x = P b x) → (∀ i : Int, 0 ≤ i → i < 3 → P1 135 i = if i < (l : Int) then (S f a).2.2.2.2 (σ 84 (3 * (S f a).2.1 + i)) else a i) → wM_runs_408 Q (fun l5 l6 l7 l8 H G => wM_runs_152 Q (nn + 1) l5 l6 l7 l8 H G) l5 l6' (P1 80 (S f a).2.1) 1 P1 G := fun l P1 hl e1 hv => by
            rw [e1 80 _ (by decide), tP 80 _ (by decide) (by decide) (by decide)]
            show wM_runs_152 Q (nn + 1) l5 l6' (σ 80 (S f a).2.1) 1 P1 G
            rw [← hg]
            refine hN t98 (σ 80 (S f a).2.1).toNat l6' (n3 + ((S f a).2.2.1 : Int)) (L ++ (S f a).2.2.2.1) (lth σ (S f a).2.1 (S f a).2.2.2.2 a) P1 ⟨by omega, ⟨fun b x h1 h2 => (e1 b x (by omega)).trans (rP.1 b x h1 h2), fun x h1 h2 => (e1 40 x (by decide)).trans (rP.2 x h1 h2)⟩, fun i i0 i1 => by rw [e1 136 i (by decide)]; exact sP i i0 i1, fun i i0 i1 => ?_, by rw [hg]; exact lt2, ⟨by rw [e1 40 122 (by decide)]; exact p122, by omega, by omega⟩, LGM_eq pL (e1 40 123 (by decide)) (fun x => e1 137 x (by decide)), by rw [lb]; omega, by rw [e1 40 119 (by decide)]; exact p119, by rw [e1 40 120 (by decide)]; exact p120, by rw [e1 40 121 (by decide)]; exact p121⟩ (fun x K2 q1 q2 q3 q4 q5 q6 => ?_)
            · rw [hv i i0 i1]
              unfold lth
              rw [hl]
            · rw [q4]
              refine hfin K2 q1 q2 ?_ (q5.trans (e1 40 128 (by decide))) (fun j => (q6 j).trans (e1 138 j (by decide)))
              rw [hg] at q3
              rw [er, show (t : Int) + 1 + 1 = (t : Int) + 2 by omega]
              exact q3
          intro e
          induction e with
          | zero =>
            intro l P1 he hl e1 hv
            refine ⟨ir, brF ?_ ⟨ir, fin l P1 (by omega) e1 hv⟩⟩
            rw [e1 83 _ (by decide), tP 83 _ (by decide) (by decide) (by decide)]
            omega
          | succ e ihe =>
            intro l P1 he hl e1 hv
            refine ⟨ir, ?_⟩
            rw [e1 83 _ (by decide), tP 83 _ (by decide) (by decide) (by decide)]
            refine ⟨fun z => ?_, fun z => ⟨ir, fin l P1 (by omega) e1 hv⟩⟩
            obtain ⟨⟨u1, u2⟩, _⟩ := d4 l z
            rw [e3_w32_id (x := 3 * (S f a).2.1) (by omega) (by omega), e3_w32_id (x := 3 * (S f a).2.1 + l) (by omega) (by omega), e1 84 _ (by decide), tP 84 _ (by decide) (by decide) (by decide)]
            refine ⟨by omega, ⟨u1, by omega⟩, by omega, fun P3 f3 => ?_⟩
            rw [e3_w32_id (x := (l : Int) + 1) (by omega) (by omega), show (l : Int) + 1 = ((l + 1 : Nat) : Int) by omega]
            refine ihe (l + 1) P3 (by omega) (by omega) (fun b x hb => by rw [f3, e3_up_ne (ne_1 hb)]; exact e1 b x hb) (fun i i0 i1 => ?_)
            by_cases y : i = (l : Int)
            · rw [y, f3, e3_up_self, if_pos (by omega), e1 136 _ (by decide)]
              exact nm _ u1 u2
            · rw [f3, e3_up_ne (ne_2 y), hv i i0 i1]
              by_cases y2 : i < (l : Int)
              · rw [if_pos y2, if_pos (by omega)]
              · rw [if_neg y2, if_neg (by omega)]
        exact cp 3 0 P (by omega) (by omega) (fun _ _ _ => rfl) (fun i i0 i1 => by rw [if_neg (by omega)]; exact aP i i0 i1)
  have go : ∀ x P, SMo σ H4 n3 L (S f a) x P → wM_runs_199 Q (fun l5 l6 l7 l8 H G => wM_runs_152 Q (nn + 1) l5 l6 l7 l8 H G) l5 l6 f x P G := fun x P hc => by
    obtain ⟨⟨fP, sP⟩, g3, gL, hcase⟩ := hc
    rw [cc] at sP
    have rP := zR_tr r4 (zR_T fP)
    have p121 : P 40 121 = ((t + 1 : Nat) : Int) := (fP.2 121 (by decide) (by decide) (by decide) (by decide) (by decide)).trans c4
    have p128 : P 40 128 = K 40 128 := (fP.2 128 (by decide) (by decide) (by decide) (by decide) (by decide)).trans (b4 128 (by decide) (by decide) (by decide))
    have p120 : P 40 120 = 0 := ((fP.2 120 (by decide) (by decide) (by decide) (by decide) (by decide)).trans (b4 120 (by decide) (by decide) (by decide))).trans h120
    have p124 : P 40 124 = (f : Int) := (fP.2 124 (by decide) (by decide) (by decide) (by decide) (by decide)).trans c124
    have p138 : ∀ k : Int, P 138 k = K 138 k := fun k => (fP.1 138 k (by decide) (by decide) (by decide) (by decide)).trans (a4 138 k (by decide))
    have p135 : ∀ i : Int, 0 ≤ i → i < 3 → P 135 i = a i := fun i i0 i1 => ((fP.1 135 i (by decide) (by decide) (by decide) (by decide)).trans (a4 135 i (by decide))).trans (h5 i i0 i1)
    have fin : (S f a).1 ≠ 0 → x = -4 → P 40 119 = (S f a).1 → P 40 125 = (if (S f a).1 = 3 then (S f a).2.1 % 16 else -4) → wM_runs_199 Q (fun l5 l6 l7 l8 H G => wM_runs_152 Q (nn + 1) l5 l6 l7 l8 H G) l5 l6 f x P G := fun z zx z0 z6' => by
      have er : rn σ H S (n + 1) f a ((t : Int) + 1) n3 L fp = ((S f a).1, 0, (t : Int) + 1, n3 + ((S f a).2.2.1 : Int), L ++ (S f a).2.2.2.1, (f : Int), if (S f a).1 = 3 then (S f a).2.1 % 16 else -4) := by
        show (if (S f a).1 = 0 then _ else _) = _
        rw [if_neg z]
      refine brT zx (nE l6 f P rP sP ?_ (fun K2 q1 q2 q3 q4 q5 => hQ l6 K2 q1 q2 q3 (fun _ => ⟨rfl, q4.trans p128, fun k => (q5 k).trans (p138 k)⟩) (fun y => ⟨?_, fun u => absurd u z, fun _ => ?_⟩)))
      · rw [er]
        exact ⟨z0, p120, by rw [p121]; show ((t + 1 : Nat) : Int) = (t : Int) + 1; omega, g3, gL, p124, z6'⟩
      · rw [if_neg z]; exact (h0 y).2
      · rw [q4, p128]; exact (h0 y).1
    rcases hcase with ⟨c0, cx, nm, d119, d125⟩ | ⟨c12, cx, d0, d6⟩ | ⟨c3, cx, d0, d6⟩
    · obtain ⟨hr1, hBn⟩ := hso.2 c0
      obtain ⟨k, ek⟩ : ∃ k : Nat, (S f a).2.1 = 16 * (f : Int) + k := ⟨((S f a).2.1 - 16 * f).toNat, by omega⟩
      have hk : (k : Int) < σ 70 f := by omega
      have h7 := h70 f hf
      have w56 := h56 f k hf hk
      rw [← ek] at w56
      have p119 : P 40 119 = 0 := (d119.trans (b4 119 (by decide) (by decide) (by decide))).trans h119
      have p125 : P 40 125 = -4 := d125.trans c125
      rw [cx]
      refine brF (by omega) ⟨fun z1 => ⟨by decide, by omega, fun P1 f1 => ⟨9, ?_⟩⟩, fun z1 => ?_⟩
      · have y : t = 0 := by rw [p121] at z1; omega
        rw [(tb_zR htb rP) 56 _ (by decide) (by decide) (by decide)] at f1
        have x1 : ∀ k : Int, k ≠ 128 → P1 40 k = P 40 k := fun k hk => by rw [f1, e3_up_ne (ne_2 hk)]
        have y1 : ∀ b k : Int, b ≠ 40 → P1 b k = P b k := fun b k hb => by rw [f1, e3_up_ne (ne_1 hb)]
        have z128 : P1 40 128 = σ 56 (S f a).2.1 := by rw [f1, e3_up_self]
        have r1 : zR H P1 := by rw [f1]; exact zR_up rP (by omega)
        have cp8 : ∀ (e : Nat) (l10 : Int) (P2 : e3_H), 0 ≤ l10 → l10 + e = 8 → (∀ b x : Int, b ≠ 138 → P2 b x = P1 b x) → (∀ j : Int, 0 ≤ j → j < l10 → P2 138 j = P1 136 j) → wM_runs_243 Q (fun l5 l6 l7 l8 H G => wM_runs_152 Q (nn + 1) l5 l6 l7 l8 H G) (e + 1) l5 (e3_rem (S f a).2.1 16) f 0 (S f a).2.1 l10 P2 G := by
          intro e
          induction e with
          | zero =>
            intro l10 P2 l0 he e2 h2
            refine brF (by omega) ?_
            have w : ∀ j : Int, P2 40 j = P1 40 j := fun j => e2 40 j (by decide)
            refine n270 k _ P2 c0 ek hk ⟨fun b x h1 h2 => (e2 b x (by omega)).trans (r1.1 b x h1 h2), fun x h1 h2 => (w x).trans (r1.2 x h1 h2)⟩ (fun i i0 i1 => by rw [e2 136 i (by decide), y1 136 i (by decide)]; exact sP i i0 i1) (fun i i0 i1 => by rw [e2 135 i (by decide), y1 135 i (by decide)]; exact p135 i i0 i1) (fun j j0 j1 => by rw [e2 136 j (by decide), y1 136 j (by decide)]; exact nm j j0 j1) (by rw [w, x1 119 (by decide)]; exact p119) (by rw [w, x1 120 (by decide)]; exact p120) (by rw [w, x1 121 (by decide)]; exact p121) (by rw [w, x1 122 (by decide)]; exact g3) (LGM_eq gL (by rw [w, x1 123 (by decide)]) (fun x => by rw [e2 137 x (by decide), y1 137 x (by decide)])) (by rw [w, x1 124 (by decide)]; exact p124) (by rw [w, x1 125 (by decide)]; exact p125) (fun K2 q1 q2 q3 q4 q5 => hQ _ K2 q1 q2 q3 (fun z => absurd y z) (fun _ => ⟨?_, fun _ => ⟨?_, fun j j0 j1 => ?_⟩, fun z => absurd c0 z⟩))
            · rw [if_pos c0, e3_rem_id ⟨by omega, by omega⟩ (by decide)]
            · rw [q4, w]; exact z128
            · rw [q5, h2 j j0 (by omega), y1 136 j (by decide)]; exact nm j j0 j1
          | succ e ihe =>
            intro l10 P2 l0 he e2 h2
            refine brT (by omega) ⟨by omega, by omega, fun P3 f3 => ?_⟩
            rw [e3_w32_id (by omega) (by omega)]
            refine ihe (l10 + 1) P3 (by omega) (by omega) (fun b x hb => by rw [f3, e3_up_ne (ne_1 hb)]; exact e2 b x hb) (fun j j0 j1 => ?_)
            by_cases u : j = l10
            · rw [u, f3, e3_up_self, e2 136 _ (by decide)]
            · rw [f3, e3_up_ne (ne_2 u)]; exact h2 j j0 (by omega)
        exact cp8 8 0 P1 (by omega) (by omega) (fun _ _ _ => rfl) (fun j j0 j1 => by omega)
      · have y : t ≠ 0 := fun u => z1 (by rw [p121, u]; rfl)
        exact n270 k l6 P c0 ek hk rP sP p135 nm p119 p120 p121 g3 gL p124 p125 (fun K2 q1 q2 q3 q4 q5 => hQ l6 K2 q1 q2 q3 (fun _ => ⟨rfl, q4.trans p128, fun j => (q5 j).trans (p138 j)⟩) (fun z => absurd z y))
    · exact fin (by omega) cx d0 (by rw [if_neg (by omega)]; exact d6.trans c125)
    · exact fin (by omega) cx (by omega) (by rw [if_pos c3]; exact d6)
  have hst := hS f H4 n3 L a (fun x K2 G2 => wM_runs_199 Q (fun l5 l6 l7 l8 H G => wM_runs_152 Q (nn + 1) l5 l6 l7 l8 H G) l5 l6 f x K2 G2) hf r4 s4 (fun i i0 i1 => by rw [a4 135 i (by decide)]; exact h5 i i0 i1) hlt ⟨by rw [b4 122 (by decide) (by decide) (by decide)]; exact h122.1, h122.2.1, by omega⟩ L4 (by omega) go
  exact hst
theorem nM_152 (h12 : nf ≤ 12) (h70 : ∀ f : Nat, f < nf → σ 70 f ≤ 16) (hT : TV σ m H) (htb : tb σ H) (hC : CLX σ m nf) (h56 : ∀ f k : Nat, f < nf → (k : Int) < σ 70 f → 0 ≤ σ 56 (16 * (f : Int) + k) ∧ σ 56 (16 * (f : Int) + k) ≤ 8) (h160 : H 40 109 ≤ 160) (hO : ∀ (f : Nat) (a : Int → Int), f < nf → LTk σ H f a → SOk σ H f (S f a)) (hS : SMx σ H G nf l5 S) : ∀ (n t f : Nat) (l6 n3 fp : Int) (L : List Int) (a : Int → Int) (K : e3_H), t + n = 99 → RMI σ H nf t f n3 L a K → (t = 0 → K 40 128 = 0 ∧ l6 = -4) → (∀ x K2, zR H K2 → z6 (H 40 109) K2 → RMo (rn σ H S (n + 1) f a ((t : Int) + 1) n3 L fp) K2 → (t ≠ 0 → x = l6 ∧ K2 40 128 = K 40 128 ∧ ∀ k : Int, K2 138 k = K 138 k) → (t = 0 → x = (if (S f a).1 = 0 then (S f a).2.1 % 16 else -4) ∧ BDm σ (S f a) K2) → Q x K2 G) → wM_runs_152 Q (n + 2) l5 l6 f 1 K G := by
  intro n
  induction n with
  | zero =>
    intro t f l6 n3 fp L a K htn hI h0 hQ
    exact nM_152s (nn := 0) (n := 0) (fp := fp) h12 h70 hT htb hC h56 h160 hO hS htn hI h0 (fun z => by omega) hQ
  | succ n ih =>
    intro t f l6 n3 fp L a K htn hI h0 hQ
    refine nM_152s (nn := n + 1) (n := n + 1) (fp := fp) h12 h70 hT htb hC h56 h160 hO hS htn hI h0 (fun _ f' l6' n3' L' a' K' hI' hQ' => ?_) hQ
    refine ih (t + 1) f' l6' n3' f L' a' K' (by omega) hI' (fun z => by omega) (fun x K2 q1 q2 q3 q4 _ => ?_)
    obtain ⟨u1, u2, u3⟩ := q4 (by omega)
    rw [show ((t + 1 : Nat) : Int) + 1 = (t : Int) + 2 by omega] at q3
    exact hQ' x K2 q1 q2 q3 u1 u2 u3
end NRN
