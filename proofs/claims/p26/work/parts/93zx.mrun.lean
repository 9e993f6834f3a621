/-- answers of a rule -/
def zAn (σ : e3_H) (nf : Nat) (r : Int) : Prop := σ 79 r = 0 ∨ (σ 79 r = 1 ∧ 0 ≤ σ 80 r ∧ σ 80 r < 8) ∨ (σ 79 r = 2 ∧ (0 ≤ σ 80 r ∧ σ 80 r < nf) ∧ σ 83 r = σ 68 (σ 80 r) ∧ ∀ k : Int, 0 ≤ k → k < 3 → k < σ 83 r → 0 ≤ σ 84 (3 * r + k) ∧ σ 84 (3 * r + k) < 8)
/-- all that sorting needs of a text -/
def zG (σ : e3_H) (nf : Nat) (Vs : Int → Int → Int → List (Int × Int)) : Prop := ∀ f : Int, 0 ≤ f → f < nf → (1 ≤ σ 68 f ∧ σ 68 f ≤ 3) ∧ (0 ≤ σ 70 f ∧ σ 70 f ≤ 16) ∧ ∀ k : Int, 0 ≤ k → k < σ 70 f → zRl σ f k (Vs f k) ∧ zAn σ nf (16 * f + k) ∧ 0 ≤ σ 56 (16 * f + k) ∧ σ 56 (16 * f + k) ≤ 8
section ZRU
variable {Q : Int → e3_H → e3_G → Prop} {σ H0 : e3_H} {G : e3_G} {nf : Nat} {Vs : Int → Int → Int → List (Int × Int)}
theorem zTN_T {f b : Int} {n : Nat} {H K : e3_H} (h : zTN f b n H) (e : ∀ a k : Int, 102 ≤ a → a ≤ 110 → K a k = H a k) (e68 : K 68 f = H 68 f) (e70 : K 70 f = H 70 f) (e74 : ∀ r : Int, K 74 r = H 74 r) (e78 : ∀ r : Int, K 78 r = H 78 r) : zTN f b n K := by
  obtain ⟨h1, h2⟩ := h
  refine ⟨h1, fun j hj => ?_⟩
  obtain ⟨a1, ⟨L, c1, c2, c3⟩, a3, a4, a5⟩ := h2 j hj
  rw [e 107 _ (by decide) (by decide), e 108 _ (by decide) (by decide), e 106 _ (by decide) (by decide), e 105 _ (by decide) (by decide), e 102 _ (by decide) (by decide), e 103 _ (by decide) (by decide), e 104 _ (by decide) (by decide), e68, e70, e74, e78]
  exact ⟨a1, ⟨L, mch_eq _ _ (fun c _ => e 110 c (by decide) (by decide)) c1, c2, c3⟩, a3, a4, a5⟩
/-- which branch a VALUE takes -/
theorem zM_isBranch {K : e3_H} {l1 l2 l3 : Int} (h1 : 0 ≤ l1 ∧ l1 < 3900) (h3 : 0 ≤ l3 ∧ l3 < 160) (hQ : ∀ x, (x = 0 ∨ x = 1) → Q x K G) : wM_isBranch Q l1 l2 l3 K G := by
  have y : ((1 : Int) = 0 ∨ (1 : Int) = 1) ∧ Q 1 K G := ⟨Or.inr rfl, hQ 1 (Or.inr rfl)⟩
  have n : ((0 : Int) = 0 ∨ (0 : Int) = 1) ∧ Q 0 K G := ⟨Or.inl rfl, hQ 0 (Or.inl rfl)⟩
  exact ⟨fun _ => ⟨h3, fun _ => ⟨h1, fun _ => y, fun _ => n⟩, fun _ => ⟨h1, h3, fun _ => y, fun _ => n⟩⟩, fun _ => ⟨h1, h3, fun _ => y, fun _ => n⟩, fun _ => ⟨h1, fun _ => ⟨h1, h3, fun _ => y, fun _ => n⟩, fun _ => y⟩, fun _ => ⟨h3, h1, fun _ => n, fun _ => ⟨h3, h1, fun _ => n, fun _ => y⟩⟩⟩
/-- the reference follows a tree -/
theorem zM_byTree {f : Int} {n : Nat} {H : e3_H} (hf : 0 ≤ f ∧ f < 12) (hfn : f < nf) (hG : zG σ nf Vs) (htb : tb σ H) (hM : zMV H) (hK : zMK H) (hT : zTN f (300 * f) n H) (hn : 1 ≤ n) (h5 : ∀ i : Int, 0 ≤ i → i < σ 68 f → 0 ≤ H 135 i ∧ H 135 i < H 40 109) (h6 : z6 (H 40 109) H) (h123 : 0 ≤ H 40 123 ∧ H 40 123 ≤ 900000) (hQ : ∀ x K, (x = -4 ∨ (16 * f ≤ x ∧ x < 16 * f + σ 70 f)) → zT H K → z6 (H 40 109) K → (0 ≤ K 40 123 ∧ K 40 123 ≤ H 40 123 + 120) → Q x K G) : wM_byTree Q f H G := by
  obtain ⟨g1, g2, g3⟩ := hG f hf.1 hfn
  have hc := hM.1
  have key : ∀ (d j : Nat) (K : e3_H), j < n → n ≤ j + d → zT H K → z6 (H 40 109) K → (0 ≤ K 40 123 ∧ K 40 123 + d ≤ H 40 123 + 120) → wM_byTree_6 Q (d + 1) (300 * f + j) K G := by
    intro d
    induction d with
    | zero => intro j K hj hd; omega
    | succ d ih =>
      intro j K hj hd fK sK bK
      have hTK : zTN f (300 * f) n K := zTN_T hT (fun a k a1 a2 => fK.1 a k (by omega) (by omega) (by omega) (by omega)) (fK.1 68 f (by decide) (by decide) (by decide) (by decide)) (fK.1 70 f (by decide) (by decide) (by decide) (by decide)) (fun r => fK.1 74 r (by decide) (by decide) (by decide) (by decide)) (fun r => fK.1 78 r (by decide) (by decide) (by decide) (by decide))
      have n120 := hTK.1
      obtain ⟨t1, ⟨L, c1, c2, c3⟩, t3, t4, t5⟩ := hTK.2 j hj
      have ix : (0 : Int) ≤ 300 * f + j ∧ 300 * f + j < 3900 := by omega
      have tK := tb_zT htb fK
      have cK : K 40 109 = H 40 109 := fK.2 109 (by decide) (by decide) (by decide) (by decide) (by decide)
      have e70 : K 70 f = σ 70 f := tK 70 f (by decide) (by decide) (by decide)
      have MK := zMV_T hM fK
      have KK := zMK_T hK fK
      have no : ∀ (K2 : e3_H) (v : Int), zT H K2 → z6 (H 40 109) K2 → (0 ≤ K2 40 123 ∧ K2 40 123 ≤ H 40 123 + 120) → ∀ H2 : e3_H, H2 = e3_up K2 40 119 v → Q (-4) H2 G := fun K2 v f2 s2 b2 H2 e2 => by
        rw [e2]
        refine hQ _ _ (Or.inl rfl) (zT_up f2 (by omega)) (z6_up s2 (Or.inl (by decide))) ?_
        rw [e3_up_ne (ne_2 (by decide))]; exact b2
      refine ⟨ix, fun z0 => no K 1 fK sK (by omega), fun z0 => ?_⟩
      have row : (K 102 (300 * f + j) = 1 ∨ K 102 (300 * f + j) = 2) → wM_byTree_35 Q (fun l2 H G => wM_byTree_6 Q (d + 1) l2 H G) (300 * f + j) (K 102 (300 * f + j)) K G := fun hz => by
        obtain ⟨⟨r1, r2⟩, r3, r4⟩ : (16 * f ≤ K 103 (300 * f + j) ∧ K 103 (300 * f + j) < 16 * f + K 70 f) ∧ (0 ≤ K 104 (300 * f + j) ∧ K 104 (300 * f + j) < K 74 (K 103 (300 * f + j))) ∧ (K 102 (300 * f + j) = 1 ∨ (K 102 (300 * f + j) = 2 ∧ K 106 (300 * f + j) = 1 ∧ K 78 (K 103 (300 * f + j)) ≠ 0)) := by
          rcases t5 with y | y | y
          · exact absurd y z0
          · exact y
          · omega
        rw [e70] at r2
        rw [tK 74 _ (by decide) (by decide) (by decide)] at r3
        obtain ⟨k, ek⟩ : ∃ k, K 103 (300 * f + j) = 16 * f + k := ⟨K 103 (300 * f + j) - 16 * f, by omega⟩
        rw [ek] at r1 r2 r3
        obtain ⟨q1, q2⟩ := g3 k (by omega) (by omega)
        refine ⟨ix, ix, ?_⟩
        rw [ek]
        refine zM_binds0 hf ⟨by omega, by omega⟩ g1 q1 r3 tK MK KK (fun i i0 i1 => ?_) (by rw [cK]; exact sK) (fun x5 K3 _ b3 s3 => ?_)
        · rw [fK.1 135 i (by decide) (by decide) (by decide) (by decide), cK]; exact h5 i i0 i1
        rw [cK] at s3
        have f3 : zT H K3 := zT_tr fK (zT_B b3)
        have e103 : ∀ K4, zT K3 K4 → K4 103 (300 * f + j) = 16 * f + k := fun K4 f4 => by rw [f4.1 103 _ (by decide) (by decide) (by decide) (by decide), b3.1 103 _ (by decide) (by decide) (by decide)]; exact ek
        have e123 : K3 40 123 = K 40 123 := b3.2 123 (by decide)
        have n98 : ∀ (K4 : e3_H) (s0 : Int), zT K3 K4 → z6 (H 40 109) K4 → (0 ≤ K4 40 123 ∧ K4 40 123 ≤ K 40 123 + 1) → (s0 = 0 → K 102 (300 * f + j) = 2) → (s0 = 0 ∨ s0 = 1 ∨ s0 = 2) → wM_byTree_98 Q (fun l2 H G => wM_byTree_6 Q (d + 1) l2 H G) (300 * f + j) s0 K4 G := fun K4 s0 f4 s4 b4 h2 hs => by
          have f04 := zT_tr f3 f4
          refine ⟨fun _ => ⟨fun _ => ⟨ix, ?_⟩, fun _ => hQ _ K4 (Or.inl rfl) f04 s4 (by omega)⟩, fun z => ⟨ix, ?_⟩⟩
          · rw [e103 K4 f4]
            exact hQ _ K4 (Or.inr ⟨r1, r2⟩) f04 s4 (by omega)
          · have hz2 := h2 (by omega)
            have h106 : K 106 (300 * f + j) = 1 := by
              rcases r4 with y | y
              · omega
              · exact y.2.1
            cases L with
            | nil => exact absurd c2 (by rw [h106]; decide)
            | cons x l =>
              obtain ⟨i, ⟨i1, i2⟩, i3⟩ := c3 x (List.mem_cons_self ..)
              have e108 : K4 108 (300 * f + j) = 300 * f + i := by
                rw [f4.1 108 _ (by decide) (by decide) (by decide) (by decide), b3.1 108 _ (by decide) (by decide) (by decide)]
                exact c1.1.trans i3
              rw [e108]
              exact ih i K4 i2 (by omega) f04 s4 (by omega)
        have n72 : ∀ (K4 : e3_H) (s0 : Int), zT K3 K4 → z6 (H 40 109) K4 → (0 ≤ K4 40 123 ∧ K4 40 123 ≤ K 40 123 + 1) → (s0 = 0 → K 102 (300 * f + j) = 2) → (s0 = 0 ∨ s0 = 1 ∨ s0 = 2) → wM_byTree_72 Q (fun l2 H G => wM_byTree_6 Q (d + 1) l2 H G) (300 * f + j) s0 K4 G := fun K4 s0 f4 s4 b4 h2 hs => by
          refine ⟨fun z => fun H1 e1 => ⟨ix, by decide, fun H2 e2 => ?_⟩, fun z => n98 K4 s0 f4 s4 b4 h2 hs⟩
          refine n98 H2 s0 (by rw [e2, e1]; exact zT_up (zT_up f4 (by omega)) (by omega)) (by rw [e2, e1]; exact z6_up (z6_up s4 (Or.inl (by decide))) (Or.inl (by decide))) ?_ h2 hs
          rw [e2, e3_up_ne (ne_2 (by decide)), e1, e3_up_ne (ne_2 (by decide))]; exact b4
        refine ⟨fun z => ⟨ix, ?_⟩, fun z => n72 K3 1 (zT_rf K3) s3 (by omega) (fun y => absurd y (by decide)) (by omega)⟩
        rw [e103 K3 (zT_rf K3)]
        have h78 : σ 78 (16 * f + k) ≠ 0 := by
          rcases r4 with y | y
          · omega
          · rw [ek, tK 78 _ (by decide) (by decide) (by decide)] at y
            exact y.2.2
        have w12 := q1.2 h78
        exact zM_guarded (tb_zT tK (zT_B b3)) (by omega) s3 (by omega) w12.1 w12.2 (by omega) (fun x9 K4 hx f4 s4 b4 => n72 K4 x9 f4 s4 (by omega) (fun _ => z) hx)
      refine ⟨fun z1 => row (Or.inl z1), fun z1 => ⟨fun z2 => row (Or.inr z2), fun z2 => fun H3 e3 => ⟨ix, ?_⟩⟩⟩
      have f3 : zT H H3 := by rw [e3]; exact zT_up fK (by omega)
      have s3 : z6 (H 40 109) H3 := by rw [e3]; exact z6_up sK (Or.inl (by decide))
      have b3 : 0 ≤ H3 40 123 ∧ H3 40 123 + (d + 1 : Nat) ≤ H 40 123 + 120 := by rw [e3, e3_up_ne (ne_2 (by decide))]; exact bK
      have at3 : ∀ a k : Int, a ≠ 40 → H3 a k = K a k := fun a k ha => by rw [e3, e3_up_ne (ne_1 ha)]
      have hpl : zPL (K 68 f) 11 (K 105 (300 * f + j)) := by
        rcases t5 with y | y | y
        · exact absurd y z0
        · omega
        · exact y.2
      have e68 : K 68 f = σ 68 f := tK 68 f (by decide) (by decide) (by decide)
      rw [e68] at hpl
      have M3 := zMV_T hM f3
      have c3' : H3 40 109 = H 40 109 := f3.2 109 (by decide) (by decide) (by decide) (by decide) (by decide)
      have hc1 : 1 ≤ H 40 109 := by have := h5 0 (by omega) (by omega); omega
      have x105 : K 105 (300 * f + j) < 2147483648 := by rcases t4 with y | y <;> omega
      rw [at3 105 _ (by decide)]
      refine zM_standing (c := H 40 109) (m := σ 68 f) g1.2 (by omega) (fun i i0 i1 => ?_) hpl x105 (fun i i0 i1 => ?_) (fun v hv => ⟨ix, ?_⟩)
      · have := M3.2.1 i i0 i1
        rw [c3'] at this
        omega
      · rw [f3.1 135 _ (by decide) (by decide) (by decide) (by decide)]; exact h5 (i - 1) (by omega) (by omega)
      rw [at3 108 _ (by decide)]
      have chain : ∀ (L : List Int) (a : Int), mch K a L → (∀ c, c ∈ L → ∃ i : Nat, (j < i ∧ i < n) ∧ c = 300 * f + i) → wM_byTree_160 Q (fun l2 H G => wM_byTree_6 Q (d + 1) l2 H G) (L.length + 1) a (K 102 (300 * f + j)) v H3 G := by
        intro L
        induction L with
        | nil =>
          intro a hm _
          have hm : a = -4 := hm
          exact brT hm (brT hm (no H3 2 f3 s3 (by omega)))
        | cons x l ihl =>
          intro a hm hcc
          obtain ⟨m1, m2⟩ := hm
          obtain ⟨i, ⟨i1, i2⟩, i3⟩ := hcc x (List.mem_cons_self ..)
          refine brF (by omega) (zM_isBranch (by omega) (by omega) (fun y hy => ⟨fun _ => ⟨by omega, ?_⟩, fun _ => brF (by omega) ?_⟩))
          · rw [m1, at3 110 _ (by decide)]
            exact ihl _ m2 (fun c hc => hcc c (List.mem_cons_of_mem _ hc))
          · show wM_byTree_6 Q (d + 1) a H3 G
            rw [m1, i3]
            exact ih i H3 i2 (by omega) f3 s3 (by omega)
      exact ⟨_, chain L _ c1 c3⟩
  have n120 := hT.1
  refine ⟨n + 1, ?_⟩
  rw [e3_w32_id (by omega) (by omega)]
  have := key n 0 H (by omega) (by omega) (zT_rf H) h6 (by omega)
  rw [show 300 * f + ((0 : Nat) : Int) = 300 * f by omega] at this
  exact this
end ZRU
