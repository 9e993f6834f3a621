/-- a run, between two calls of FUNCTIONS -/
def zRI (σ H : e3_H) (nf t : Nat) (f : Int) (K : e3_H) : Prop := (0 ≤ f ∧ f < nf) ∧ zR H K ∧ z6 (H 40 109) K ∧ (∀ i : Int, 0 ≤ i → i < σ 68 f → 0 ≤ K 135 i ∧ K 135 i < H 40 109) ∧ K 40 121 = (t : Int) ∧ (0 ≤ K 40 123 ∧ K 40 123 ≤ 120 * (t : Int)) ∧ 0 ≤ K 40 128 ∧ K 40 128 ≤ 8
def zRE (H K : e3_H) : Prop := zR H K ∧ z6 (H 40 109) K ∧ 0 ≤ K 40 123 ∧ 0 ≤ K 40 128 ∧ K 40 128 ≤ 8
section ZRW
variable {Q : Int → e3_H → e3_G → Prop} {σ H : e3_H} {G : e3_G} {nf : Nat} {Vs : Int → Int → Int → List (Int × Int)}
theorem zM_152s {l5 : Int} {nn t : Nat} (hn12 : nf ≤ 12) (hG : zG σ nf Vs) (htb : tb σ H) (hM : zMV H) (hK : zMK H) (hS : ∀ f : Nat, f < nf → ∃ n : Nat, 1 ≤ n ∧ zTN f (300 * (f : Int)) n H) (ht : t ≤ 99) (hE : ∀ (l6 l7 : Int) (K : e3_H), zRE H K → wM_runs_152 Q nn l5 l6 l7 0 K G) (hN : t + 1 ≤ 99 → ∀ (f' l6 : Int) (K : e3_H), zRI σ H nf (t + 1) f' K → wM_runs_152 Q nn l5 l6 f' 1 K G) {f l6 : Int} {K : e3_H} (hI : zRI σ H nf t f K) : wM_runs_152 Q (nn + 1) l5 l6 f 1 K G := by
  obtain ⟨hf, rK, sK, h5, h121, h123, h128⟩ := hI
  have hc := hM.1
  obtain ⟨g1, g2, g3⟩ := hG f hf.1 hf.2
  refine brF (by decide) (fun H2 e2 H3 e3 H4 e4 => ?_)
  rw [h121, w_p1 (by omega)] at e2
  have r4 : zR H H4 := by rw [e4, e3, e2]; exact zR_up (zR_up (zR_up rK (by omega)) (by omega)) (by omega)
  have s4 : z6 (H 40 109) H4 := by rw [e4, e3, e2]; exact z6_up (z6_up (z6_up sK (Or.inl (by decide))) (Or.inl (by decide))) (Or.inl (by decide))
  have a4 : ∀ a k : Int, a ≠ 40 → H4 a k = K a k := fun a k ha => by rw [e4, e3_up_ne (ne_1 ha), e3, e3_up_ne (ne_1 ha), e2, e3_up_ne (ne_1 ha)]
  have b4 : ∀ k : Int, k ≠ 121 → k ≠ 124 → k ≠ 125 → H4 40 k = K 40 k := fun k k1 k2 k3 => by rw [e4, e3_up_ne (ne_2 k3), e3, e3_up_ne (ne_2 k2), e2, e3_up_ne (ne_2 k1)]
  have c4 : H4 40 121 = ((t + 1 : Nat) : Int) := by rw [e4, e3_up_ne (ne_2 (by decide)), e3, e3_up_ne (ne_2 (by decide)), e2]; exact e3_up_self ..
  have d123 : H4 40 123 = K 40 123 := b4 123 (by decide) (by decide) (by decide)
  have d128 : H4 40 128 = K 40 128 := b4 128 (by decide) (by decide) (by decide)
  have cc : H4 40 109 = H 40 109 := r4.2 109 (by decide) (by decide)
  have t4 := tb_zR htb r4
  -- behind a rule
  have n408 : ∀ (l6 l7 l8 : Int) (P : e3_H), zRE H P → l8 = 0 → wM_runs_408 Q (fun l5 l6 l7 l8 H G => wM_runs_152 Q nn l5 l6 l7 l8 H G) l5 l6 l7 l8 P G := fun l6 l7 l8 P hP h8 => by
    rw [h8]; exact hE l6 l7 P hP
  have n270 : ∀ (l6 s0 : Int) (P : e3_H), (16 * f ≤ s0 ∧ s0 < 16 * f + σ 70 f) → zRE H P → P 40 121 = ((t + 1 : Nat) : Int) → P 40 123 ≤ 120 * ((t + 1 : Nat) : Int) → wM_runs_270 Q (fun l5 l6 l7 l8 H G => wM_runs_152 Q nn l5 l6 l7 l8 H G) l5 l6 f 0 s0 P G := fun l6 s0 P hs hP p121 p123 => by
    obtain ⟨rP, sP, bP, b1, b2⟩ := hP
    have tP := tb_zR htb rP
    have ir : 0 ≤ s0 ∧ s0 < 192 := by omega
    obtain ⟨q1, q2, q3⟩ := g3 (s0 - 16 * f) (by omega) (by omega)
    rw [show 16 * f + (s0 - 16 * f) = s0 by omega] at q2
    refine ⟨ir, ?_⟩
    have e79 := tP 79 s0 (by decide) (by decide) (by decide)
    rw [e79]
    refine ⟨fun z => ⟨by decide, fun P2 f2 => ⟨ir, ?_⟩⟩, fun z => ?_⟩
    · have r2 : zR H P2 := by rw [f2]; exact zR_up rP (by omega)
      have s2 : z6 (H 40 109) P2 := by rw [f2]; exact z6_up sP (Or.inl (by decide))
      have t2 := tb_zR htb r2
      have x2 : ∀ k : Int, k ≠ 125 → P2 40 k = P 40 k := fun k hk => by rw [f2, e3_up_ne (ne_2 hk)]
      have n328 : ∀ v : Int, wM_runs_328 Q (fun l5 l6 l7 l8 H G => wM_runs_152 Q nn l5 l6 l7 l8 H G) l5 l6 f 0 v P2 G := fun v => fun P1 f1 => by
        refine n408 _ _ _ P1 ⟨by rw [f1]; exact zR_up r2 (by omega), by rw [f1]; exact z6_up s2 (Or.inl (by decide)), ?_, ?_, ?_⟩ rfl
        · rw [f1, e3_up_ne (ne_2 (by decide)), x2 123 (by decide)]; exact bP
        · rw [f1, e3_up_ne (ne_2 (by decide)), x2 128 (by decide)]; exact b1
        · rw [f1, e3_up_ne (ne_2 (by decide)), x2 128 (by decide)]; exact b2
      rw [t2 79 s0 (by decide) (by decide) (by decide), t2 80 s0 (by decide) (by decide) (by decide)]
      refine ⟨fun _ => ⟨ir, n328 _⟩, fun z1 => ⟨ir, ?_⟩⟩
      have h80 : 0 ≤ σ 80 s0 ∧ σ 80 s0 < 8 := by
        rcases q2 with y | y | y
        · exact absurd y z1
        · exact y.2
        · omega
      exact ⟨h80, by have := s2 _ h80.1 h80.2; omega, n328 _⟩
    · refine ⟨fun _ => fun P9 f9 => ?_, fun z100 => ⟨4, ?_⟩⟩
      · refine n408 _ _ _ P9 ⟨by rw [f9]; exact zR_up rP (by omega), by rw [f9]; exact z6_up sP (Or.inl (by decide)), ?_, ?_, ?_⟩ rfl
        · rw [f9, e3_up_ne (ne_2 (by decide))]; exact bP
        · rw [f9, e3_up_ne (ne_2 (by decide))]; exact b1
        · rw [f9, e3_up_ne (ne_2 (by decide))]; exact b2
      · obtain ⟨a1, a2, a3, a4'⟩ : σ 79 s0 = 2 ∧ (0 ≤ σ 80 s0 ∧ σ 80 s0 < nf) ∧ σ 83 s0 = σ 68 (σ 80 s0) ∧ ∀ k : Int, 0 ≤ k → k < 3 → k < σ 83 s0 → 0 ≤ σ 84 (3 * s0 + k) ∧ σ 84 (3 * s0 + k) < 8 := by
          rcases q2 with y | y | y
          · omega
          · omega
          · exact y
        have h68 := (hG (σ 80 s0) a2.1 a2.2).1
        have cp : ∀ (e : Nat) (l10 : Int) (P1 : e3_H), 0 ≤ l10 → l10 + e = 3 → zR H P1 → z6 (H 40 109) P1 → (∀ k : Int, P1 40 k = P 40 k) → (∀ i : Int, 0 ≤ i → i < l10 → i < σ 83 s0 → 0 ≤ P1 135 i ∧ P1 135 i < H 40 109) → wM_runs_354 Q (fun l5 l6 l7 l8 H G => wM_runs_152 Q nn l5 l6 l7 l8 H G) (e + 1) l5 l6 s0 l10 P1 G := by
          have fin : ∀ (l10 : Int) (P1 : e3_H), σ 83 s0 ≤ l10 → zR H P1 → z6 (H 40 109) P1 → (∀ k : Int, P1 40 k = P 40 k) → (∀ i : Int, 0 ≤ i → i < l10 → i < σ 83 s0 → 0 ≤ P1 135 i ∧ P1 135 i < H 40 109) → wM_runs_408 Q (fun l5 l6 l7 l8 H G => wM_runs_152 Q nn l5 l6 l7 l8 H G) l5 l6 (P1 80 s0) 1 P1 G := fun l10 P1 hl r1 s1 e1 hv => by
            have t1 := tb_zR htb r1
            rw [t1 80 s0 (by decide) (by decide) (by decide)]
            refine hN (by rw [p121] at z100; omega) (σ 80 s0) l6 P1 ⟨a2, r1, s1, fun i i0 i1 => hv i i0 (by omega) (by omega), by rw [e1]; exact p121, by rw [e1]; omega, by rw [e1]; exact b1, by rw [e1]; exact b2⟩
          intro e
          induction e with
          | zero =>
            intro l10 P1 l0 he r1 s1 e1 hv
            refine ⟨ir, brF ?_ ⟨ir, fin l10 P1 (by omega) r1 s1 e1 hv⟩⟩
            rw [(tb_zR htb r1) 83 s0 (by decide) (by decide) (by decide)]
            omega
          | succ e ihe =>
            intro l10 P1 l0 he r1 s1 e1 hv
            have t1 := tb_zR htb r1
            refine ⟨ir, ?_⟩
            rw [t1 83 s0 (by decide) (by decide) (by decide)]
            refine ⟨fun z => ?_, fun z => ⟨ir, fin l10 P1 (by omega) r1 s1 e1 hv⟩⟩
            rw [e3_w32_id (x := 3 * s0) (by omega) (by omega), e3_w32_id (x := 3 * s0 + l10) (by omega) (by omega), t1 84 _ (by decide) (by decide) (by decide)]
            have h84 := a4' l10 l0 (by omega) z
            refine ⟨by omega, h84, by omega, fun P3 f3 => ?_⟩
            rw [e3_w32_id (x := l10 + 1) (by omega) (by omega)]
            have hv6 := s1 _ h84.1 h84.2
            refine ihe (l10 + 1) P3 (by omega) (by omega) (by rw [f3]; exact zR_up r1 (by omega)) (by rw [f3]; exact z6_up s1 (Or.inl (by decide))) (fun k => by rw [f3, e3_up_ne (ne_1 (by decide))]; exact e1 k) (fun i i0 i1 i2 => ?_)
            by_cases y : i = l10
            · subst y; rw [f3, e3_up_self]; exact hv6
            · rw [f3, e3_up_ne (ne_2 y)]; exact hv i i0 (by omega) i2
        exact cp 3 0 P (by omega) (by omega) rP sP (fun _ => rfl) (fun i i0 i1 => by omega)
  have n199 : ∀ (s0 : Int) (P : e3_H), (s0 = -4 ∨ (16 * f ≤ s0 ∧ s0 < 16 * f + σ 70 f)) → zT H4 P → z6 (H4 40 109) P → (0 ≤ P 40 123 ∧ P 40 123 ≤ H4 40 123 + 120) → wM_runs_199 Q (fun l5 l6 l7 l8 H G => wM_runs_152 Q nn l5 l6 l7 l8 H G) l5 l6 f s0 P G := fun s0 P hs fP sP bP => by
    rw [cc] at sP
    have rP := zR_tr r4 (zR_T fP)
    have p121 : P 40 121 = ((t + 1 : Nat) : Int) := (fP.2 121 (by decide) (by decide) (by decide) (by decide) (by decide)).trans c4
    have p128 : P 40 128 = K 40 128 := (fP.2 128 (by decide) (by decide) (by decide) (by decide) (by decide)).trans d128
    have hE0 : zRE H P := ⟨rP, sP, bP.1, by omega, by omega⟩
    by_cases z : s0 = -4
    · exact brT z (hE _ _ P hE0)
    rcases hs with y | hs
    · exact absurd y z
    refine brF z ⟨fun z1 => ⟨by decide, by omega, fun P1 f1 => ⟨9, ?_⟩⟩, fun z1 => n270 _ s0 P hs hE0 p121 (by omega)⟩
    obtain ⟨q1, q2, q3⟩ := g3 (s0 - 16 * f) (by omega) (by omega)
    rw [show 16 * f + (s0 - 16 * f) = s0 by omega] at q3
    rw [(tb_zR htb rP) 56 s0 (by decide) (by decide) (by decide)] at f1
    have cp8 : ∀ (e : Nat) (l10 : Int) (P2 : e3_H), 0 ≤ l10 → l10 + e = 8 → zRE H P2 → P2 40 121 = ((t + 1 : Nat) : Int) → P2 40 123 ≤ 120 * ((t + 1 : Nat) : Int) → wM_runs_243 Q (fun l5 l6 l7 l8 H G => wM_runs_152 Q nn l5 l6 l7 l8 H G) (e + 1) l5 (e3_rem s0 16) f 0 s0 l10 P2 G := by
      intro e
      induction e with
      | zero => intro l10 P2 l0 he h2 p2 p3; exact brF (by omega) (n270 _ s0 P2 hs h2 p2 p3)
      | succ e ihe =>
        intro l10 P2 l0 he h2 p2 p3
        obtain ⟨r2, s2, b2, b3, b5⟩ := h2
        refine brT (by omega) ⟨by omega, by omega, fun P3 f3 => ?_⟩
        rw [e3_w32_id (by omega) (by omega)]
        have x3 : ∀ k : Int, P3 40 k = P2 40 k := fun k => by rw [f3, e3_up_ne (ne_1 (by decide))]
        exact ihe (l10 + 1) P3 (by omega) (by omega) ⟨by rw [f3]; exact zR_up r2 (by omega), by rw [f3]; exact z6_up s2 (Or.inl (by decide)), by rw [x3]; exact b2, by rw [x3]; exact b3, by rw [x3]; exact b5⟩ (by rw [x3]; exact p2) (by rw [x3]; exact p3)
    have x1 : ∀ k : Int, k ≠ 128 → P1 40 k = P 40 k := fun k hk => by rw [f1, e3_up_ne (ne_2 hk)]
    have y1 : P1 40 128 = σ 56 s0 := by rw [f1]; exact e3_up_self ..
    exact cp8 8 0 P1 (by omega) (by omega) ⟨by rw [f1]; exact zR_up rP (by omega), by rw [f1]; exact z6_up sP (Or.inl (by decide)), by rw [x1 123 (by decide)]; exact bP.1, by rw [y1]; exact q3.1, by rw [y1]; exact q3.2⟩ (by rw [x1 121 (by decide)]; exact p121) (by rw [x1 123 (by decide)]; omega)
  have h5' : ∀ i : Int, 0 ≤ i → i < σ 68 f → 0 ≤ H4 135 i ∧ H4 135 i < H4 40 109 := fun i i0 i1 => by rw [a4 135 i (by decide), cc]; exact h5 i i0 i1
  refine ⟨fun _ => zM_byRules ⟨hf.1, by omega⟩ hf.2 hG t4 (zMV_R hM r4) (zMK_R hK r4) h5' (by rw [cc]; exact s4) (by omega) n199, fun _ => ?_⟩
  obtain ⟨n, n1, n2⟩ := hS f.toNat (by omega)
  rw [show ((f.toNat : Nat) : Int) = f by omega] at n2
  exact zM_byTree ⟨hf.1, by omega⟩ hf.2 hG t4 (zMV_R hM r4) (zMK_R hK r4) (zTN_R n2 r4) n1 h5' (by rw [cc]; exact s4) (by omega) n199
end ZRW
