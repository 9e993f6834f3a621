/-- what a run may change -/
def zR (H K : e3_H) : Prop := (∀ a k : Int, a ≠ 40 → a < 94 ∨ (98 < a ∧ a < 135) ∨ 138 < a → K a k = H a k) ∧ ∀ k : Int, k ≠ 71 → k < 119 ∨ 128 < k → K 40 k = H 40 k
theorem zR_rf (H : e3_H) : zR H H := ⟨fun _ _ _ _ => rfl, fun _ _ _ => rfl⟩
theorem zR_tr {H K K2 : e3_H} (h : zR H K) (h2 : zR K K2) : zR H K2 := ⟨fun a k h3 h4 => (h2.1 a k h3 h4).trans (h.1 a k h3 h4), fun k h3 h4 => (h2.2 k h3 h4).trans (h.2 k h3 h4)⟩
theorem zR_T {H K : e3_H} (h : zT H K) : zR H K := ⟨fun a k h3 h4 => h.1 a k h3 (by omega) (by omega) (by omega), fun k h3 h4 => h.2 k h3 (by omega) (by omega) (by omega) (by omega)⟩
theorem zR_up {H K : e3_H} {a k v : Int} (h : zR H K) (ha : (135 ≤ a ∧ a ≤ 138) ∨ (a = 40 ∧ 119 ≤ k ∧ k ≤ 128)) : zR H (e3_up K a k v) := ⟨fun b j h3 h4 => by rw [e3_up_ne (fun z => by omega)]; exact h.1 b j h3 h4, fun j h3 h4 => by rw [e3_up_ne (fun z => by omega)]; exact h.2 j h3 h4⟩
theorem tb_zR {σ H K : e3_H} (h : tb σ H) (h2 : zR H K) : tb σ K := fun a k h3 h4 h5 => (h2.1 a k (by omega) (by omega)).trans (h a k h3 h4 h5)
theorem zMV_R {H K : e3_H} (h : zMV H) (f : zR H K) : zMV K := zMV_eq h (fun a k h1 h2 => f.1 a k (by omega) (by omega)) (f.2 109 (by decide) (by decide)) (by rw [f.2 10 (by decide) (by decide)]; exact Int.le_refl _) (fun k _ _ => f.1 44 k (by decide) (by decide))
theorem zMK_R {H K : e3_H} (h : zMK H) (f : zR H K) : zMK K := zMK_eq h (fun a k ha => f.1 a k (by omega) (by omega)) (f.2 10 (by decide) (by decide))
theorem zTN_R {f b : Int} {n : Nat} {H K : e3_H} (h : zTN f b n H) (r : zR H K) : zTN f b n K := zTN_T h (fun a k a1 a2 => r.1 a k (by omega) (by omega)) (r.1 68 f (by decide) (by decide)) (r.1 70 f (by decide) (by decide)) (fun x => r.1 74 x (by decide) (by decide)) (fun x => r.1 78 x (by decide) (by decide))
section ZRV
variable {Q : Int → e3_H → e3_G → Prop} {σ : e3_H} {G : e3_G} {nf : Nat} {Vs : Int → Int → Int → List (Int × Int)}
/-- the reference tries rule after rule -/
theorem zM_byRules {f : Int} {H : e3_H} (hf : 0 ≤ f ∧ f < 12) (hfn : f < nf) (hG : zG σ nf Vs) (htb : tb σ H) (hM : zMV H) (hK : zMK H) (h5 : ∀ i : Int, 0 ≤ i → i < σ 68 f → 0 ≤ H 135 i ∧ H 135 i < H 40 109) (h6 : z6 (H 40 109) H) (h123 : 0 ≤ H 40 123 ∧ H 40 123 ≤ 900000) (hQ : ∀ x K, (x = -4 ∨ (16 * f ≤ x ∧ x < 16 * f + σ 70 f)) → zT H K → z6 (H 40 109) K → (0 ≤ K 40 123 ∧ K 40 123 ≤ H 40 123 + 120) → Q x K G) : wM_byRules Q f H G := by
  obtain ⟨g1, g2, g3⟩ := hG f hf.1 hfn
  have hc := hM.1
  have key : ∀ (d : Nat) (k : Int) (K : e3_H), 0 ≤ k → k + d = σ 70 f → zT H K → z6 (H 40 109) K → (0 ≤ K 40 123 ∧ K 40 123 ≤ H 40 123 + k) → wM_byRules_5 Q (d + 1) f (16 * f + k) K G := by
    intro d
    induction d with
    | zero =>
      intro k K k0 hd fK sK bK
      have tK := tb_zT htb fK
      refine ⟨hf, ?_⟩
      rw [tK 70 f (by decide) (by decide) (by decide), e3_w32_id (x := 16 * f) (by omega) (by omega), e3_w32_id (x := 16 * f + σ 70 f) (by omega) (by omega)]
      refine brF (by omega) (fun H2 e2 => ?_)
      rw [e2]
      refine hQ _ _ (Or.inl rfl) (zT_up fK (by omega)) (z6_up sK (Or.inl (by decide))) ?_
      rw [e3_up_ne (ne_2 (by decide))]; omega
    | succ d ih =>
      intro k K k0 hd fK sK bK
      have tK := tb_zT htb fK
      obtain ⟨q1, q2, q3⟩ := g3 k k0 (by omega)
      have h74 : σ 74 (16 * f + k) ≤ 40 := by obtain ⟨⟨hi, L, _, _, _, _, _, _, r7, _⟩, _⟩ := q1; exact r7
      have ir : 0 ≤ 16 * f + k ∧ 16 * f + k < 192 := by omega
      refine ⟨hf, ?_⟩
      rw [tK 70 f (by decide) (by decide) (by decide), e3_w32_id (x := 16 * f) (by omega) (by omega), e3_w32_id (x := 16 * f + σ 70 f) (by omega) (by omega)]
      refine brT (by omega) ⟨41, ?_⟩
      have nx : ∀ K2, zT H K2 → z6 (H 40 109) K2 → (0 ≤ K2 40 123 ∧ K2 40 123 ≤ H 40 123 + k + 1) → wM_byRules_110 Q (fun l1 l2 H G => wM_byRules_5 Q (d + 1) l1 l2 H G) f (16 * f + k) K2 G := fun K2 f2 s2 b2 => by
        show wM_byRules_5 Q (d + 1) f (e3_w32 (16 * f + k + 1)) K2 G
        rw [e3_w32_id (by omega) (by omega), show 16 * f + k + 1 = 16 * f + (k + 1) by omega]
        exact ih (k + 1) K2 (by omega) (by omega) f2 s2 (by omega)
      have n78 : ∀ (K2 : e3_H) (s0 : Int), zT H K2 → z6 (H 40 109) K2 → (0 ≤ K2 40 123 ∧ K2 40 123 ≤ H 40 123 + k + 1) → wM_byRules_78 Q (fun l1 l2 H G => wM_byRules_5 Q (d + 1) l1 l2 H G) f (16 * f + k) s0 K2 G := fun K2 s0 f2 s2 b2 => by
        refine ⟨fun _ => fun H1 e1 => ⟨by decide, fun H2 e2 => ?_⟩, fun _ => ⟨fun _ => hQ _ K2 (Or.inr (by omega)) f2 s2 (by omega), fun _ => nx K2 f2 s2 b2⟩⟩
        rw [e2, e1]
        refine hQ _ _ (Or.inl rfl) (zT_up (zT_up f2 (by omega)) (by omega)) (z6_up (z6_up s2 (Or.inl (by decide))) (Or.inl (by decide))) ?_
        rw [e3_up_ne (ne_2 (by decide)), e3_up_ne (ne_2 (by decide))]; omega
      have n47 : ∀ (K2 : e3_H) (l3 : Int), zT H K2 → z6 (H 40 109) K2 → (0 ≤ K2 40 123 ∧ K2 40 123 ≤ H 40 123 + k) → wM_byRules_47 Q (fun l1 l2 H G => wM_byRules_5 Q (d + 1) l1 l2 H G) f (16 * f + k) l3 K2 G := fun K2 l3 f2 s2 b2 => by
        have t2 := tb_zT htb f2
        refine ⟨ir, fun _ => nx K2 f2 s2 (by omega), fun _ => ⟨ir, ?_⟩⟩
        rw [t2 78 _ (by decide) (by decide) (by decide)]
        refine ⟨fun _ => n78 K2 1 f2 s2 (by omega), fun z => ?_⟩
        obtain ⟨w1, w2⟩ := q1.2 z
        exact zM_guarded t2 (by omega) s2 ir w1 w2 (by omega) (fun x9 K4 hx f4 s4 b4 => n78 K4 x9 (zT_tr f2 f4) s4 (by omega))
      have ways : ∀ (e : Nat) (l3 : Int) (K2 : e3_H), 0 ≤ l3 → l3 + e = 40 → zT H K2 → z6 (H 40 109) K2 → (0 ≤ K2 40 123 ∧ K2 40 123 ≤ H 40 123 + k) → wM_byRules_22 Q (fun l1 l2 H G => wM_byRules_5 Q (d + 1) l1 l2 H G) (e + 1) f (16 * f + k) l3 K2 G := by
        intro e
        induction e with
        | zero =>
          intro l3 K2 l0 he f2 s2 b2
          have t2 := tb_zT htb f2
          refine ⟨ir, ?_⟩
          rw [t2 74 _ (by decide) (by decide) (by decide)]
          exact brF (by omega) (n47 K2 _ f2 s2 b2)
        | succ e ihe =>
          intro l3 K2 l0 he f2 s2 b2
          have t2 := tb_zT htb f2
          have c2 : K2 40 109 = H 40 109 := f2.2 109 (by decide) (by decide) (by decide) (by decide) (by decide)
          refine ⟨ir, ?_⟩
          rw [t2 74 _ (by decide) (by decide) (by decide)]
          refine ⟨fun z => ?_, fun _ => n47 K2 _ f2 s2 b2⟩
          refine zM_binds0 hf ⟨k0, by omega⟩ g1 q1 ⟨l0, z⟩ t2 (zMV_T hM f2) (zMK_T hK f2) (fun i i0 i1 => by rw [f2.1 135 i (by decide) (by decide) (by decide) (by decide), c2]; exact h5 i i0 i1) (by rw [c2]; exact s2) (fun x4 K3 _ b3 s3 => ?_)
          rw [c2] at s3
          have e123 : K3 40 123 = K2 40 123 := b3.2 123 (by decide)
          have f3 := zT_tr f2 (zT_B b3)
          refine ⟨fun _ => ?_, fun _ => n47 K3 _ f3 s3 (by omega)⟩
          rw [e3_w32_id (by omega) (by omega)]
          exact ihe (l3 + 1) K3 (by omega) (by omega) f3 s3 (by omega)
      exact ways 40 0 K (by omega) (by omega) fK sK bK
  refine ⟨(σ 70 f).toNat + 1, ?_⟩
  rw [e3_w32_id (by omega) (by omega)]
  have := key (σ 70 f).toNat 0 H (by omega) (by omega) (zT_rf H) h6 (by omega)
  rw [Int.add_zero] at this
  exact this
/-- what the reference holds between calls, for sorting -/
def zMH (H : e3_H) : Prop := (∀ i : Int, 0 ≤ i → i < 8 → 0 ≤ H 136 i ∧ (H 136 i < H 40 109 ∨ H 136 i = 0)) ∧ 0 ≤ H 40 123 ∧ 0 ≤ H 40 128 ∧ H 40 128 ≤ 8
theorem zMH_6 {H : e3_H} (h : zMH H) (hc : 1 ≤ H 40 109) : z6 (H 40 109) H := fun i i0 i1 => by have := h.1 i i0 i1; omega
theorem z6_MH {c : Int} {K : e3_H} (h : z6 c K) (hc : K 40 109 = c) (h1 : 0 ≤ K 40 123) (h2 : 0 ≤ K 40 128 ∧ K 40 128 ≤ 8) : zMH K := ⟨fun i i0 i1 => by have := h i i0 i1; rw [hc]; exact ⟨this.1, Or.inl this.2⟩, h1, h2⟩
end ZRV
