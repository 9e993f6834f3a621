def ssm (f p : Int → Int) : Nat → Int
  | 0 => 0
  | i + 1 => ssm f p i + f (p i)
theorem zsm_s (H : e3_H) (p : Int → Int) : ∀ n : Nat, zsm H p n = ssm (H 131) p n := by
  intro n
  induction n with
  | zero => rfl
  | succ n ih => show zsm H p n + H 131 (p n) = ssm (H 131) p n + H 131 (p n); rw [ih]
theorem ssm_eq {f g p q : Int → Int} : ∀ n : Nat, (∀ i : Nat, i < n → f (p i) = g (q i)) → ssm f p n = ssm g q n := by
  intro n
  induction n with
  | zero => intro _; rfl
  | succ n ih =>
    intro h
    show ssm f p n + f (p n) = ssm g q n + g (q n)
    rw [ih (fun i hi => h i (by omega)), h n (by omega)]
theorem ssm_rg {f p : Int → Int} : ∀ n : Nat, (∀ i : Nat, i < n → 1 ≤ f (p i) ∧ f (p i) ≤ 60) → 0 ≤ ssm f p n ∧ ssm f p n ≤ 60 * (n : Int) := by
  intro n
  induction n with
  | zero => intro _; exact ⟨Int.le_refl _, Int.le_refl _⟩
  | succ n ih =>
    intro h
    have a := ih (fun i hi => h i (by omega))
    have b := h n (by omega)
    have e : ssm f p (n + 1) = ssm f p n + f (p n) := rfl
    omega
/-- whether a VALUE is of a SORT -/
def sOf (σ : e3_H) (w l s : Int) : Bool := if s < 3 then decide (w = s) else (decide (w = 3) || (decide (w = 4) && a_of (σ 43) (s - 3) 24 l))
theorem sOf_l {σ : e3_H} {w l l2 s : Int} (h : w = 4 → l = l2) : sOf σ w l s = sOf σ w l2 s := by
  unfold sOf
  by_cases z : w = 4
  · rw [h z]
  · simp [z]
/-- whether a leaf can be made -/
def mkO (σ : e3_H) (m : Nat) (W L : Int → Int) (n k : Int) (p : Int → Int) : Prop := (0 ≤ k ∧ k < (m : Int) ∧ a_sl (σ 43) k m = false) ∧ ∀ i : Nat, (i : Int) < σ 44 k → (0 ≤ p i ∧ p i < n) ∧ sOf σ (W (p i)) (L (p i)) (σ 45 (4 * k + i)) = true
section VMK
variable {Q : Int → e3_H → e3_G → Prop} {H σ : e3_H} {G : e3_G} {m : Nat}
theorem vL_isOf (hd : c_kd σ m H) (hk : k_inv σ m) (h : zLX H) (l1 l2 : Int) (hlf : 0 ≤ l1 → l1 < H 26 1 → H 27 l1 = 4 → 0 ≤ H 28 l1 ∧ H 28 l1 < (m : Int)) (hs : 0 ≤ l2 ∧ l2 < 1000) (h1 : 0 ≤ l1 ∧ l1 < H 26 1 → sOf σ (H 27 l1) (H 28 l1) l2 = true → Q 1 H G) (h0 : ¬ ((0 ≤ l1 ∧ l1 < H 26 1) ∧ sOf σ (H 27 l1) (H 28 l1) l2 = true) → Q 0 H G) : wL_isOf Q l1 l2 H G := by
  have hl := h.1
  have hm := hk.2.1
  by_cases v : 0 ≤ l1 ∧ l1 < H 26 1
  case neg => exact zL_has l1 (fun z => absurd z v) (brT rfl (h0 (fun z => v z.1)))
  refine brF (by omega) (brT v.2 ⟨Or.inr rfl, brF (by decide) ?_⟩)
  have no : sOf σ (H 27 l1) (H 28 l1) l2 = false → ((0 : Int) = 0 ∨ (0 : Int) = 1) ∧ Q 0 H G := fun z => ⟨Or.inl rfl, h0 (fun y => by rw [z] at y; exact absurd y.2 (by decide))⟩
  have ye : sOf σ (H 27 l1) (H 28 l1) l2 = true → ((1 : Int) = 0 ∨ (1 : Int) = 1) ∧ Q 1 H G := fun z => ⟨Or.inr rfl, h1 v z⟩
  by_cases a : l2 < 3
  · refine brT a ⟨by omega, ?_⟩
    by_cases b : H 27 l1 = l2
    · exact brT b (ye (by unfold sOf; rw [if_pos a]; exact decide_eq_true b))
    · exact brF b (no (by unfold sOf; rw [if_pos a]; exact decide_eq_false b))
  · refine brF a ⟨by omega, ?_⟩
    by_cases b : H 27 l1 = 3
    · exact brT b (ye (by unfold sOf; rw [if_neg a, b]; rfl))
    · refine brF b ⟨by omega, ?_⟩
      by_cases c : H 27 l1 = 4
      · have hL := hlf v.1 v.2 c
        refine brT c ⟨by omega, ?_⟩
        rw [e3_w32_id (x := H 28 l1) (by omega) (by omega), e3_w32_id (x := l2 - 3) (by omega) (by omega)]
        have := cK_isOrUnder (H := H) (G := G) (m := m) (o := l2 - 3) (g := σ 43) (k := (H 28 l1).toNat) (Q := fun x10 H8 G9 => (((x10 : Int) = 0 → (wL_isOf_75 Q H8 G9)) ∧ (¬ ((x10 : Int) = 0) → (wL_isOf_71 Q H8 G9)))) hd.1 hm hk.2.2.2.1 (fun j hj => (hd.2 j hj).2.1) (by omega) (fun z => brF (by decide) (ye ?_)) (fun z => brT rfl (no ?_))
        · rw [show (((H 28 l1).toNat : Nat) : Int) = H 28 l1 by omega] at this
          exact this
        · rw [show (((H 28 l1).toNat : Nat) : Int) = H 28 l1 by omega] at z
          unfold sOf
          rw [if_neg a, c, z]
          rfl
        · rw [show (((H 28 l1).toNat : Nat) : Int) = H 28 l1 by omega] at z
          unfold sOf
          rw [if_neg a, c, z]
          rfl
      · exact brF c (no (by unfold sOf; rw [if_neg a, decide_eq_false b, decide_eq_false c]; rfl))
theorem nM_isOfSort (e43 : H 43 = σ 43) (hk : k_inv σ m) (l1 l2 : Int) (hl : 0 ≤ l1 ∧ l1 < 160) (hlf : H 128 l1 = 4 → 0 ≤ H 129 l1 ∧ H 129 l1 < (m : Int)) (hs : 0 ≤ l2 ∧ l2 < 1000) (h1 : sOf σ (H 128 l1) (H 129 l1) l2 = true → Q 1 H G) (h0 : sOf σ (H 128 l1) (H 129 l1) l2 = false → Q 0 H G) : wM_isOfSort Q l1 l2 H G := by
  have hm := hk.2.1
  have no : sOf σ (H 128 l1) (H 129 l1) l2 = false → ((0 : Int) = 0 ∨ (0 : Int) = 1) ∧ Q 0 H G := fun z => ⟨Or.inl rfl, h0 z⟩
  have ye : sOf σ (H 128 l1) (H 129 l1) l2 = true → ((1 : Int) = 0 ∨ (1 : Int) = 1) ∧ Q 1 H G := fun z => ⟨Or.inr rfl, h1 z⟩
  by_cases a : l2 < 3
  · refine brT a ⟨hl, ?_⟩
    by_cases b : H 128 l1 = l2
    · exact brT b (ye (by unfold sOf; rw [if_pos a]; exact decide_eq_true b))
    · exact brF b (no (by unfold sOf; rw [if_pos a]; exact decide_eq_false b))
  · refine brF a ⟨hl, ?_⟩
    by_cases b : H 128 l1 = 3
    · exact brT b (ye (by unfold sOf; rw [if_neg a, b]; rfl))
    · refine brF b ⟨hl, ?_⟩
      by_cases c : H 128 l1 = 4
      · have hL := hlf c
        refine brT c ⟨hl, ?_⟩
        rw [e3_w32_id (x := l2 - 3) (by omega) (by omega)]
        have := cM_isOf (H := H) (G := G) (m := m) (o := l2 - 3) (k := (H 129 l1).toNat) (Q := fun x7 H5 G6 => (((x7 : Int) = 0 → (wM_isOfSort_61 Q H5 G6)) ∧ (¬ ((x7 : Int) = 0) → (wM_isOfSort_57 Q H5 G6)))) hm (by rw [e43]; exact hk.2.2.2.1) (by omega) (by omega) (fun z => brF (by decide) (ye ?_)) (fun z => brT rfl (no ?_))
        · rw [show (((H 129 l1).toNat : Nat) : Int) = H 129 l1 by omega] at this
          exact this
        · rw [show (((H 129 l1).toNat : Nat) : Int) = H 129 l1 by omega, e43] at z
          unfold sOf
          rw [if_neg a, c, z]
          rfl
        · rw [show (((H 129 l1).toNat : Nat) : Int) = H 129 l1 by omega, e43] at z
          unfold sOf
          rw [if_neg a, c, z]
          rfl
      · exact brF c (no (by unfold sOf; rw [if_neg a, decide_eq_false b, decide_eq_false c]; rfl))
theorem vL_offerSuits (hd : c_kd σ m H) (hk : k_inv σ m) (h : zLX H) (hlf : ∀ v : Int, 0 ≤ v → v < H 26 1 → H 27 v = 4 → 0 ≤ H 28 v ∧ H 28 v < (m : Int)) {k : Nat} (hkm : k < m) (h1 : (∀ i : Nat, (i : Int) < σ 44 k → (0 ≤ H 33 i ∧ H 33 i < H 26 1) ∧ sOf σ (H 27 (H 33 i)) (H 28 (H 33 i)) (σ 45 (4 * (k : Int) + i)) = true) → Q 1 H G) (h0 : ¬ (∀ i : Nat, (i : Int) < σ 44 k → (0 ≤ H 33 i ∧ H 33 i < H 26 1) ∧ sOf σ (H 27 (H 33 i)) (H 28 (H 33 i)) (σ 45 (4 * (k : Int) + i)) = true) → Q 0 H G) : wL_offerSuits Q k H G := by
  obtain ⟨q0, q4, q5⟩ := hk.2.2.2.2 k hkm
  have hm := hk.2.1
  have key : ∀ (n j : Nat), j + n = (σ 44 k).toNat → (∀ i : Nat, i < j → (0 ≤ H 33 i ∧ H 33 i < H 26 1) ∧ sOf σ (H 27 (H 33 i)) (H 28 (H 33 i)) (σ 45 (4 * (k : Int) + i)) = true) → wL_offerSuits_2 Q (n + 1) k j H G := by
    intro n
    induction n with
    | zero =>
      intro j hj hs
      exact cK_partCount hd hkm hm (brF (by omega) (h1 (fun i hi => hs i (by omega))))
    | succ n ih =>
      intro j hj hs
      have s5 := q5 j (by omega)
      refine cK_partCount hd hkm hm (brT (by omega) ⟨by omega, cK_partSort hd hk hkm (by omega) (vL_isOf hd hk h _ _ (fun a b c => hlf _ a b c) ⟨s5.1, by omega⟩ (fun hv hz => brF (by decide) ?_) (fun hz => brT rfl (h0 (fun y => hz (y j (by omega))))))⟩)
      rw [w_p1 (by omega)]
      refine ih (j + 1) (by omega) (fun i hi => ?_)
      by_cases z : i = j
      · rw [z]; exact ⟨hv, hz⟩
      · exact hs i (by omega)
  exact ⟨(σ 44 k).toNat + 1, key (σ 44 k).toNat 0 (by omega) (fun i hi => absurd hi (Nat.not_lt_zero _))⟩
theorem vL_putLeaf (hG : zGC G) (hd : c_kd σ m H) (hk : k_inv σ m) (h : zLX H) (hb : ∀ v : Int, 0 ≤ v → v < H 26 1 → 1 ≤ H 29 v ∧ H 29 v ≤ 60) {k : Nat} (hkm : k < m) (hs : ∀ i : Nat, (i : Int) < σ 44 k → 0 ≤ H 33 i ∧ H 33 i < H 26 1) (hQ : ∀ x K, zF 26 33 H K → zLX K → vO 4 k (1 + ssm (H 29) (H 33) (σ 44 k).toNat) (σ 44 k) (H 33) H x K → Q x K G) : wL_putLeaf Q k H G := by
  obtain ⟨q0, q4, q5⟩ := hk.2.2.2.2 k hkm
  have hm := hk.2.1
  have h26 := h.1
  have key : ∀ (n j : Nat), j + n = (σ 44 k).toNat → wL_putLeaf_14 Q (n + 1) k (1 + ssm (H 29) (H 33) j) (σ 44 k) j H G := by
    intro n
    induction n with
    | zero =>
      intro j hj
      have e : j = (σ 44 k).toNat := by omega
      subst e
      refine brF (by omega) (vL_put0 hG h 4 k _ _ ⟨q0, q4⟩ (fun i i0 i1 => ?_) hQ)
      have := hs i.toNat (by omega)
      rw [show ((i.toNat : Nat) : Int) = i by omega] at this
      omega
    | succ n ih =>
      intro j hj
      have v := hs j (by omega)
      have w := hb _ v.1 v.2
      have r := ssm_rg (f := H 29) (p := H 33) j (fun i hi => hb _ (hs i (by omega)).1 (hs i (by omega)).2)
      refine brT (by omega) ⟨by omega, brF (by omega) (brT v.2 ⟨Or.inr rfl, brF (by decide) ⟨by omega, by omega, ?_⟩⟩)⟩
      show wL_putLeaf_14 Q (n + 1) k (e3_w32 (1 + ssm (H 29) (H 33) j + H 29 (H 33 j))) (σ 44 k) (e3_w32 ((j : Int) + 1)) H G
      rw [w_p1 (by omega), e3_w32_id (x := 1 + ssm (H 29) (H 33) j + H 29 (H 33 j)) (by omega) (by omega), Int.add_assoc]
      exact ih (j + 1) (by omega)
  exact cK_partCount hd hkm hm ⟨(σ 44 k).toNat + 1, key (σ 44 k).toNat 0 (by omega)⟩
end VMK
section VMM
variable {Q : Int → e3_H → e3_G → Prop} {H : e3_H} {G : e3_G}
theorem nM_mk159 (h : zMV H) (hk : zMK H) (l1 l2 l3 l4 l5 l6 : Int) (hl1 : 0 ≤ l1 ∧ l1 < H 40 10) (hp : ∀ i : Nat, (i : Int) < H 44 l1 → 0 ≤ pk4 l2 l3 l4 l5 i ∧ pk4 l2 l3 l4 l5 i < H 40 109) (h6 : l6 = 1 + zsm H (pk4 l2 l3 l4 l5) (H 44 l1).toNat) (h60 : l6 ≤ 60) (hc : H 40 109 ≠ 160) (hQ : ∀ K, zMF H K → zMV K → mPt 4 l1 0 l6 (H 44 l1) (pk4 l2 l3 l4 l5) H K → Q (H 40 109) K G) : wM_newValue (fun x4 H2 G3 => ((0 : Int) ≤ x4 ∧ (x4 : Int) < 160) ∧ ∀ H5 : e3_H, H5 = e3_up H2 131 x4 l6 → (∃ n, wM_make_159 Q n l1 l2 l3 l4 l5 x4 0 H5 G3)) 4 l1 0 H G := by
  obtain ⟨hc0, h2, h3⟩ := id h
  obtain ⟨m, k1, k2, k3, k4⟩ := hk
  have h44 := k4 l1 hl1.1 (by omega)
  refine brF hc ⟨by omega, fun H1 e1 => ?_⟩
  have c1 : H1 40 109 = H 40 109 := by rw [e1, e3_up_ne (ne_1 (by decide))]
  refine ⟨by omega, fun H3 e3 => ?_⟩
  have c3 : H3 40 109 = H 40 109 := by rw [e3, e3_up_ne (ne_1 (by decide))]; exact c1
  refine ⟨by omega, fun H5 e5 => ?_⟩
  have c5 : H5 40 109 = H 40 109 := by rw [e5, e3_up_ne (ne_1 (by decide))]; exact c3
  refine ⟨by omega, fun H7 e7 H9 e9 => ?_⟩
  have c7 : H7 40 109 = H 40 109 := by rw [e7, e3_up_ne (ne_1 (by decide))]; exact c5
  rw [c1] at e3
  rw [c3] at e5
  rw [c5] at e7
  rw [c7, e3_w32_id (by omega) (by omega)] at e9
  have c9 : H9 40 109 = H 40 109 + 1 := by rw [e9]; exact e3_up_self ..
  rw [c9, e3_w32_id (by omega) (by omega), show H 40 109 + 1 - 1 = H 40 109 by omega]
  refine ⟨by omega, fun H0 e0 => ?_⟩
  have old : ∀ b k : Int, ¬ (b = 40 ∧ k = 109) → ¬ (128 ≤ b ∧ b ≤ 131 ∧ k = H 40 109) → H0 b k = H b k := fun b k n1 n2 => by
    rw [e0, e3_up_ne (fun z => n2 ⟨by omega, by omega, z.2⟩), e9, e3_up_ne n1, e7, e3_up_ne (fun z => n2 ⟨by omega, by omega, z.2⟩), e5, e3_up_ne (fun z => n2 ⟨by omega, by omega, z.2⟩), e3, e3_up_ne (fun z => n2 ⟨by omega, by omega, z.2⟩), e1, e3_up_ne (fun z => n2 ⟨by omega, by omega, z.2⟩)]
  have n128 : H0 128 (H 40 109) = 4 := by rw [e0, e3_up_ne (ne_1 (by decide)), e9, e3_up_ne (ne_1 (by decide)), e7, e3_up_ne (ne_1 (by decide)), e5, e3_up_ne (ne_1 (by decide)), e3, e3_up_ne (ne_1 (by decide)), e1]; exact e3_up_self ..
  have n129 : H0 129 (H 40 109) = l1 := by rw [e0, e3_up_ne (ne_1 (by decide)), e9, e3_up_ne (ne_1 (by decide)), e7, e3_up_ne (ne_1 (by decide)), e5, e3_up_ne (ne_1 (by decide)), e3]; exact e3_up_self ..
  have n130 : H0 130 (H 40 109) = 0 := by rw [e0, e3_up_ne (ne_1 (by decide)), e9, e3_up_ne (ne_1 (by decide)), e7, e3_up_ne (ne_1 (by decide)), e5]; exact e3_up_self ..
  have n131 : H0 131 (H 40 109) = l6 := by rw [e0]; exact e3_up_self ..
  have n109 : H0 40 109 = H 40 109 + 1 := by rw [e0, e3_up_ne (ne_1 (by decide))]; exact c9
  have o44 : ∀ k : Int, H0 44 k = H 44 k := fun k => old 44 k (ne_1 (by decide)) (by omega)
  have key : ∀ (n : Nat) (l8 : Int) (K : e3_H), 0 ≤ l8 → l8 + n = H 44 l1 → (∀ b k : Int, ¬ (b = 132 ∧ 4 * H 40 109 ≤ k ∧ k < 4 * H 40 109 + l8) → K b k = H0 b k) → (∀ i : Int, 0 ≤ i → i < l8 → K 132 (4 * H 40 109 + i) = pk4 l2 l3 l4 l5 i) → wM_make_159 Q (n + 1) l1 l2 l3 l4 l5 (H 40 109) l8 K G := by
    intro n
    induction n with
    | zero =>
      intro l8 K g0 hn hf hv
      have e44 : ∀ k : Int, K 44 k = H 44 k := fun k => by rw [hf 44 k (fun z => absurd z.1 (by decide))]; exact o44 k
      refine ⟨by omega, brF (by rw [e44]; omega) (hQ K ⟨fun b k b0 b1 => ?_, fun k hk => ?_, by rw [hf 40 109 (fun z => absurd z.1 (by decide)), n109]; omega⟩ ⟨?_, fun i i0 i1 => ?_, fun v v0 v1 => ?_⟩ ⟨?_, fun b k z1 z2 z3 => ?_, ⟨?_, ?_, ?_, ?_⟩, fun i i0 i1 => ?_⟩)⟩
      · rw [hf b k (fun z => by omega)]; exact old b k (fun z => b0 z.1) (by omega)
      · rw [hf 40 k (fun z => absurd z.1 (by decide))]; exact old 40 k (fun z => hk z.2) (by omega)
      · rw [hf 40 109 (fun z => absurd z.1 (by decide)), n109]; omega
      · by_cases z : 4 * H 40 109 ≤ i ∧ i < 4 * H 40 109 + l8
        · have e := hv (i - 4 * H 40 109) (by omega) (by omega)
          rw [show 4 * H 40 109 + (i - 4 * H 40 109) = i by omega] at e
          rw [e]
          have := hp (i - 4 * H 40 109).toNat (by omega)
          rw [show (((i - 4 * H 40 109).toNat : Nat) : Int) = i - 4 * H 40 109 by omega] at this
          rw [hf 40 109 (fun z => absurd z.1 (by decide)), n109]
          omega
        · rw [hf 132 i (fun y => z y.2), old 132 i (ne_1 (by decide)) (by omega), hf 40 109 (fun z => absurd z.1 (by decide)), n109]
          have := h2 i i0 i1
          omega
      · have e9' : K 40 109 = H 40 109 + 1 := by rw [hf 40 109 (fun z => absurd z.1 (by decide))]; exact n109
        have e10 : K 40 10 = H 40 10 := by rw [hf 40 10 (fun z => absurd z.1 (by decide))]; exact old 40 10 (by decide) (by omega)
        have f1 : ∀ b k : Int, b ≠ 132 → K b k = H0 b k := fun b k hb => hf b k (fun z => hb z.1)
        rw [e9'] at v1 ⊢
        rw [e10]
        by_cases z : v = H 40 109
        · subst z
          rw [f1 131 _ (by decide), f1 128 _ (by decide), f1 129 _ (by decide), n131, n128, n129, e44]
          have hz := zsm_rg (H := H) (pk4 l2 l3 l4 l5) (H 44 l1).toNat (fun i hi => (h3 _ (hp i (by omega)).1 (hp i (by omega)).2).1)
          refine ⟨by omega, fun _ => ⟨hl1, fun i i0 i1 => ?_, ?_⟩⟩
          · rw [hv i i0 (by omega)]
            have := hp i.toNat (by omega)
            rw [show ((i.toNat : Nat) : Int) = i by omega] at this
            omega
          · rw [h6]
            have : ∀ n : Nat, (n : Int) ≤ H 44 l1 → zps K (H 40 109) n = zsm H (pk4 l2 l3 l4 l5) n := by
              intro n
              induction n with
              | zero => intro _; rfl
              | succ n ih =>
                intro hn2
                show zps K (H 40 109) n + K 131 (K 132 (4 * H 40 109 + n)) = zsm H (pk4 l2 l3 l4 l5) n + H 131 (pk4 l2 l3 l4 l5 n)
                have := hp n (by omega)
                rw [ih (by omega), hv n (by omega) (by omega), f1 131 _ (by decide), old 131 _ (ne_1 (by decide)) (by omega)]
            rw [this _ (by omega)]
        · obtain ⟨a1, a2⟩ := h3 v v0 (by omega)
          rw [f1 131 v (by decide), f1 128 v (by decide), f1 129 v (by decide), old 131 v (ne_1 (by decide)) (by omega), old 128 v (ne_1 (by decide)) (by omega), old 129 v (ne_1 (by decide)) (by omega)]
          refine ⟨a1, fun y => ?_⟩
          obtain ⟨b1, b2, b3⟩ := a2 y
          have hkd := k4 (H 129 v) b1.1 (by omega)
          have e132 : ∀ i : Int, 0 ≤ i → i < H 44 (H 129 v) → K 132 (4 * v + i) = H 132 (4 * v + i) := fun i i0 i1 => by rw [hf 132 _ (fun t => by omega)]; exact old 132 _ (ne_1 (by decide)) (by omega)
          rw [e44]
          refine ⟨b1, fun i i0 i1 => ?_, ?_⟩
          · rw [e132 i i0 i1]
            have := b2 i i0 i1
            omega
          · rw [b3, zps_eq (K := K) (H := H) _ (fun i hi => ⟨e132 i (by omega) (by omega), ?_⟩)]
            have := b2 i (by omega) (by omega)
            rw [f1 131 _ (by decide), old 131 _ (ne_1 (by decide)) (by omega)]
      · rw [hf 40 109 (fun z => absurd z.1 (by decide))]; exact n109
      · rw [hf b k (fun z => z3 ⟨z.1, by omega, by omega⟩)]; exact old b k z1 z2
      · rw [hf 128 _ (fun z => absurd z.1 (by decide))]; exact n128
      · rw [hf 129 _ (fun z => absurd z.1 (by decide))]; exact n129
      · rw [hf 130 _ (fun z => absurd z.1 (by decide))]; exact n130
      · rw [hf 131 _ (fun z => absurd z.1 (by decide))]; exact n131
      · exact hv i i0 (by omega)
    | succ n ih =>
      intro l8 K g0 hn hf hv
      have e44 : ∀ k : Int, K 44 k = H 44 k := fun k => by rw [hf 44 k (fun z => absurd z.1 (by decide))]; exact o44 k
      have n213 : ∀ s0 : Int, s0 = pk4 l2 l3 l4 l5 l8 → wM_make_213 Q (fun l1 l2 l3 l4 l5 l7 l8 H G => wM_make_159 Q (n + 1) l1 l2 l3 l4 l5 l7 l8 H G) l1 l2 l3 l4 l5 (H 40 109) l8 s0 (e3_w32 ((e3_w32 (4 * H 40 109)) + l8)) K G := fun s0 hs => by
        rw [e3_w32_id (x := 4 * H 40 109) (by omega) (by omega), e3_w32_id (x := 4 * H 40 109 + l8) (by omega) (by omega)]
        refine ⟨by omega, fun K1 f1 => ?_⟩
        rw [e3_w32_id (x := l8 + 1) (by omega) (by omega)]
        refine ih (l8 + 1) K1 (by omega) (by omega) (fun b k hb => ?_) (fun i i0 i1 => ?_)
        · rw [f1, e3_up_ne (fun z => hb ⟨z.1, by omega, by omega⟩)]
          exact hf b k (fun z => hb ⟨z.1, by omega, by omega⟩)
        · by_cases z : i = l8
          · subst z; rw [f1, e3_up_self]; exact hs
          · rw [f1, e3_up_ne (fun y => by omega)]; exact hv i i0 (by omega)
      refine ⟨by omega, brT (by rw [e44]; omega) ?_⟩
      by_cases z0 : l8 = 0
      · exact brT z0 (n213 _ (by unfold pk4; rw [if_pos z0]))
      refine brF z0 ?_
      by_cases z1 : l8 = 1
      · exact brT z1 (n213 _ (by unfold pk4; rw [if_neg z0, if_pos z1]))
      refine brF z1 ?_
      by_cases z2 : l8 = 2
      · exact brT z2 (n213 _ (by unfold pk4; rw [if_neg z0, if_neg z1, if_pos z2]))
      · exact brF z2 (n213 _ (by unfold pk4; rw [if_neg z0, if_neg z1, if_neg z2]))
  exact ⟨(H 44 l1).toNat + 1, key (H 44 l1).toNat 0 H0 (by omega) (by omega) (fun b k _ => rfl) (fun i i0 i1 => by omega)⟩
end VMM
