theorem vO_p {l1 l2 l4 l5 x : Int} {p q : Int → Int} {H H4 K : e3_H} (h : vO l1 l2 l4 l5 p H4 x K) (e : ∀ a k : Int, a ≠ 33 → H4 a k = H a k) (hp : ∀ i : Int, 0 ≤ i → i < l5 → p i = q i) : vO l1 l2 l4 l5 q H x K := by
  have e26 := e 26 1 (by decide)
  rcases h with ⟨a1, a2, a3⟩ | ⟨a1, a2, tw, ⟨b1, b2, b3, b4, b5, b6⟩, a4⟩
  · rw [e26] at a2
    exact Or.inl ⟨a1, a2, fun a k ha => (a3 a k ha).trans (e a k ha)⟩
  · rw [e26] at a1 a2 a4 b2 b3 b4 b5 b6
    rw [e 32 _ (by decide)] at a4
    exact Or.inr ⟨a1, a2, tw, ⟨fun a k ha => (b1 a k ha).trans (e a k (by omega)), ⟨b2.1, fun k hk => (b2.2 k hk).trans (e 26 k (by decide))⟩, fun a k c1 c2 c3 c4 => (b3 a k c1 c2 c3 c4).trans (e a k (by omega)), b4, fun k hk => (b5 k hk).trans (e 31 k (by decide)), fun i i0 i1 => (b6 i i0 i1).trans (hp i i0 i1)⟩, a4⟩
section VM2
variable {Q : Int → e3_H → e3_G → Prop} {H σ : e3_H} {G : e3_G} {m : Nat}
/-- make, of the class -/
theorem vP_make (hG : zGC G) (h : zLX H) (hd : c_kd σ m H) (hk : k_inv σ m) (hlf : ∀ v : Int, 0 ≤ v → v < H 26 1 → H 27 v = 4 → 0 ≤ H 28 v ∧ H 28 v < (m : Int)) (hb : ∀ v : Int, 0 ≤ v → v < H 26 1 → 1 ≤ H 29 v ∧ H 29 v ≤ 60) (l1 l2 l3 l4 l5 : Int)
    (hbad : ¬ mkO σ m (H 27) (H 28) (H 26 1) l1 (pk4 l2 l3 l4 l5) → ∀ K, zF 26 33 H K → zLX K → (∀ a k : Int, a ≠ 33 → K a k = H a k) → Q (-1) K G)
    (hQ : mkO σ m (H 27) (H 28) (H 26 1) l1 (pk4 l2 l3 l4 l5) → ∀ x K, zF 26 33 H K → zLX K → vO 4 l1 (1 + ssm (H 29) (pk4 l2 l3 l4 l5) (σ 44 l1).toNat) (σ 44 l1) (pk4 l2 l3 l4 l5) H x K → Q x K G) : wP_make Q l1 l2 l3 l4 l5 H G := by
  have hm := hk.2.1
  have h80 := hd.1
  have no : ¬ mkO σ m (H 27) (H 28) (H 26 1) l1 (pk4 l2 l3 l4 l5) → Q (-1) H G := fun z => hbad z H (zF_rf H) h (fun _ _ _ => rfl)
  by_cases a : l1 < 0
  · exact brT a ⟨Or.inl rfl, brT rfl (no (fun z => by have := z.1.1; omega))⟩
  refine brF a ?_
  by_cases b : l1 < H 8 0
  case neg => exact brF b ⟨Or.inl rfl, brT rfl (no (fun z => by have := z.1.2.1; omega))⟩
  refine brT b ⟨by omega, ?_⟩
  have hkm : l1.toNat < m := by omega
  have el : ((l1.toNat : Nat) : Int) = l1 := by omega
  have h11 := (hd.2 l1.toNat hkm).2.2.2.2
  rw [el] at h11
  by_cases c : H 11 l1 = 0
  case neg => exact brF c ⟨Or.inl rfl, brT rfl (no (fun z => c (by rw [h11, z.1.2.2]; rfl)))⟩
  have hsl : a_sl (σ 43) l1 m = false := by
    cases z : a_sl (σ 43) l1 m with
    | false => rfl
    | true => rw [h11, z] at c; exact absurd c (by decide)
  refine brT c ⟨Or.inr rfl, brF (by decide) ?_⟩
  intro H1 e1 H2 e2 H3 e3 H4 e4
  have f4 : zF 26 33 H H4 := by rw [e4, e3, e2, e1]; exact zF_up (zF_up (zF_up (zF_up (zF_rf H) (by decide)) (by decide)) (by decide)) (by decide)
  have a4 : ∀ x k : Int, x ≠ 33 → H4 x k = H x k := fun x k hx => by rw [e4, e3_up_ne (ne_1 hx), e3, e3_up_ne (ne_1 hx), e2, e3_up_ne (ne_1 hx), e1, e3_up_ne (ne_1 hx)]
  have p4 : ∀ i : Int, 0 ≤ i → i < 4 → H4 33 i = pk4 l2 l3 l4 l5 i := fun i i0 i1 => by
    unfold pk4
    rcases (show i = 0 ∨ i = 1 ∨ i = 2 ∨ i = 3 by omega) with rfl | rfl | rfl | rfl
    · rw [e4, e3_up_ne (ne_2 (by decide)), e3, e3_up_ne (ne_2 (by decide)), e2, e3_up_ne (ne_2 (by decide)), e1]; exact e3_up_self ..
    · rw [e4, e3_up_ne (ne_2 (by decide)), e3, e3_up_ne (ne_2 (by decide)), e2]; exact e3_up_self ..
    · rw [e4, e3_up_ne (ne_2 (by decide)), e3]; exact e3_up_self ..
    · rw [e4]; exact e3_up_self ..
  clear e1 e2 e3 e4
  have l4' : zLX H4 := by
    unfold zLX
    rw [a4 26 1 (by decide)]
    exact ⟨h.1, fun i i0 i1 => by rw [a4 31 i (by decide)]; exact h.2.1 i i0 i1, fun i i0 i1 => by rw [a4 30 i (by decide)]; exact h.2.2 i i0 i1⟩
  have d4 : c_kd σ m H4 := ckd_eq hd (fun x k hx => a4 x k (by omega))
  have g26 : H4 26 1 = H 26 1 := a4 26 1 (by decide)
  have g27 : H4 27 = H 27 := funext fun k => a4 27 k (by decide)
  have g28 : H4 28 = H 28 := funext fun k => a4 28 k (by decide)
  have g29 : H4 29 = H 29 := funext fun k => a4 29 k (by decide)
  obtain ⟨q0, q4, q5⟩ := hk.2.2.2.2 l1.toNat hkm
  rw [el] at q0 q4
  have eqv : (∀ i : Nat, (i : Int) < σ 44 ((l1.toNat : Nat) : Int) → (0 ≤ H4 33 i ∧ H4 33 i < H4 26 1) ∧ sOf σ (H4 27 (H4 33 i)) (H4 28 (H4 33 i)) (σ 45 (4 * ((l1.toNat : Nat) : Int) + i)) = true) ↔ mkO σ m (H 27) (H 28) (H 26 1) l1 (pk4 l2 l3 l4 l5) := by
    rw [el, g26, g27, g28]
    constructor
    · intro z
      refine ⟨⟨by omega, by omega, hsl⟩, fun i hi => ?_⟩
      rw [← p4 i (by omega) (by omega)]
      exact z i hi
    · intro z i hi
      rw [p4 i (by omega) (by omega)]
      exact z.2 i hi
  have hlf4 : ∀ v : Int, 0 ≤ v → v < H4 26 1 → H4 27 v = 4 → 0 ≤ H4 28 v ∧ H4 28 v < (m : Int) := by rw [g26, g27, g28]; exact hlf
  have hb4 : ∀ v : Int, 0 ≤ v → v < H4 26 1 → 1 ≤ H4 29 v ∧ H4 29 v ≤ 60 := by rw [g26, g29]; exact hb
  have main := vL_offerSuits (Q := fun x9 H7 G8 => (((x9 : Int) = 0 → Q (-1) H7 G8) ∧ (¬ ((x9 : Int) = 0) → (wL_putLeaf (fun x12 H10 G11 => Q x12 H10 G11) l1 H7 G8)))) (G := G) d4 hk l4' hlf4 hkm (fun z => brF (by decide) ?_) (fun z => brT rfl (hbad (fun y => z (eqv.mpr y)) H4 f4 l4' a4))
  · rw [el] at main
    exact main
  · have hmk := eqv.mp z
    have pl := vL_putLeaf (Q := fun x12 H10 G11 => Q x12 H10 G11) hG d4 hk l4' hb4 hkm (fun i hi => (z i hi).1) (fun x K f l o => ?_)
    · rw [el] at pl
      exact pl
    · rw [el, g29] at o
      have es : ssm (H 29) (H4 33) (σ 44 l1).toNat = ssm (H 29) (pk4 l2 l3 l4 l5) (σ 44 l1).toNat := ssm_eq _ (fun i hi => by rw [p4 i (by omega) (by omega)])
      rw [es] at o
      exact hQ hmk x K (zF_tr f4 f) l (vO_p o a4 (fun i i0 i1 => p4 i i0 (by omega)))
/-- make, of the reference -/
theorem nM_make (h : zMV H) (hz : zMK H) (e43 : H 43 = σ 43) (e44 : ∀ k : Int, H 44 k = σ 44 k) (e45 : ∀ k : Int, H 45 k = σ 45 k) (h10 : H 40 10 = (m : Int)) (hk : k_inv σ m) (l1 l2 l3 l4 l5 : Int)
    (hbad : ¬ mkO σ m (H 128) (H 129) (H 40 109) l1 (pk4 l2 l3 l4 l5) → Q (-1) H G)
    (hQ : mkO σ m (H 128) (H 129) (H 40 109) l1 (pk4 l2 l3 l4 l5) → ∀ x K, zMF H K → zMV K → mO 4 l1 0 (1 + ssm (H 131) (pk4 l2 l3 l4 l5) (σ 44 l1).toNat) (σ 44 l1) (pk4 l2 l3 l4 l5) H x K → Q x K G) : wM_make Q l1 l2 l3 l4 l5 H G := by
  have hc0 := h.1
  have hm := hk.2.1
  have hlf : ∀ v : Int, 0 ≤ v → v < H 40 109 → H 128 v = 4 → 0 ≤ H 129 v ∧ H 129 v < (m : Int) := fun v v0 v1 v4 => by
    have := ((h.2.2 v v0 v1).2 v4).1
    omega
  refine cM_in (fun a b => ⟨Or.inr rfl, brF (by decide) ?_⟩) (fun z => ⟨Or.inl rfl, brT rfl (hbad (fun y => z (by have := y.1; rw [h10, e3_w32_id (by omega) (by omega)]; omega)))⟩)
  rw [h10, e3_w32_id (by omega) (by omega)] at b
  refine cM_isSealed (m := m) h10 hm (fun y => brF (by decide) (hbad (fun z => by rw [e43, z.1.2.2] at y; exact absurd y (by decide)))) (fun y => brT rfl ?_)
  rw [e43] at y
  have hkm : l1.toNat < m := by omega
  have el : ((l1.toNat : Nat) : Int) = l1 := by omega
  obtain ⟨q0, q4, q5⟩ := hk.2.2.2.2 l1.toNat hkm
  rw [el] at q0 q4 q5
  have key : ∀ (n : Nat) (l6 : Int) (l7 : Nat), (l7 : Int) + n = H 44 l1 → l6 = 1 + zsm H (pk4 l2 l3 l4 l5) l7 → (∀ i : Nat, i < l7 → (0 ≤ pk4 l2 l3 l4 l5 i ∧ pk4 l2 l3 l4 l5 i < H 40 109) ∧ sOf σ (H 128 (pk4 l2 l3 l4 l5 i)) (H 129 (pk4 l2 l3 l4 l5 i)) (σ 45 (4 * l1 + i)) = true) → wM_make_24 Q (n + 1) l1 l2 l3 l4 l5 l6 l7 H G := by
    intro n
    induction n with
    | zero =>
      intro l6 l7 hn h6 hp
      have hmk : mkO σ m (H 128) (H 129) (H 40 109) l1 (pk4 l2 l3 l4 l5) := ⟨⟨a, by omega, y⟩, fun i hi => hp i (by rw [e44] at hn; omega)⟩
      have hQ := hQ hmk
      have e6 : l6 = 1 + ssm (H 131) (pk4 l2 l3 l4 l5) (σ 44 l1).toNat := by rw [h6, zsm_s, show l7 = (σ 44 l1).toNat by rw [e44] at hn; omega]
      rw [← e6] at hQ
      rw [e44] at hn
      refine ⟨by omega, brF (by rw [e44]; omega) ?_⟩
      by_cases c : H 40 109 = 160
      · exact brT c (hQ _ H (zMF_rf H) h (Or.inl ⟨rfl, fun z => z.1 c, rfl⟩))
      refine brF c ?_
      by_cases d : 60 < l6
      · exact brT d (hQ _ H (zMF_rf H) h (Or.inl ⟨rfl, fun z => by omega, rfl⟩))
      refine brF d ?_
      refine nM_mk159 h hz l1 l2 l3 l4 l5 l6 ⟨a, by omega⟩ (fun i hi => (hp i (by rw [e44] at hi; omega)).1) (by rw [h6, show (H 44 l1).toNat = l7 by rw [e44]; omega]) (by omega) c (fun K f v p => hQ _ K f v (Or.inr ⟨rfl, ⟨c, by omega⟩, ?_⟩))
      rw [e44] at p
      exact p
    | succ n ih =>
      intro l6 l7 hn h6 hp
      have hrg := zsm_rg (H := H) (pk4 l2 l3 l4 l5) l7 (fun i hi => (h.2.2 _ (hp i hi).1.1 (hp i hi).1.2).1)
      have e4 := e44 l1
      have s5 := q5 l7 (by omega)
      have n67 : ∀ s0 : Int, s0 = pk4 l2 l3 l4 l5 l7 → wM_make_67 Q (fun l1 l2 l3 l4 l5 l6 l7 H G => wM_make_24 Q (n + 1) l1 l2 l3 l4 l5 l6 l7 H G) l1 l2 l3 l4 l5 l6 l7 s0 H G := fun s0 hs => by
        have nob : ¬ ((0 ≤ s0 ∧ s0 < H 40 109) ∧ sOf σ (H 128 s0) (H 129 s0) (σ 45 (4 * l1 + l7)) = true) → Q (-1) H G := fun w => hbad (fun z => w (by rw [hs]; exact z.2 l7 (by omega)))
        by_cases hv : 0 ≤ s0 ∧ s0 < H 40 109
        case neg =>
          refine cM_in (fun z1 z2 => absurd ⟨z1, ?_⟩ hv) (fun _ => ⟨Or.inl rfl, brT rfl (nob (fun w => hv w.1))⟩)
          rw [e3_w32_id (by omega) (by omega)] at z2
          omega
        refine cM_in (fun _ _ => ⟨Or.inr rfl, brF (by decide) ?_⟩) (fun w => absurd ⟨hv.1, by rw [e3_w32_id (by omega) (by omega)]; omega⟩ w)
        · rw [e3_w32_id (x := 4 * l1) (by omega) (by omega), e3_w32_id (x := 4 * l1 + (l7 : Int)) (by omega) (by omega), e45]
          refine ⟨by omega, nM_isOfSort e43 hk s0 _ (by omega) (hlf s0 hv.1 hv.2) ⟨s5.1, by omega⟩ (fun w => brF (by decide) ⟨by omega, ?_⟩) (fun w => brT rfl (nob (fun z => by rw [z.2] at w; exact absurd w (by decide))))⟩
          have h131 := (h.2.2 s0 hv.1 hv.2).1
          rw [e3_w32_id (x := l6 + H 131 s0) (by omega) (by omega), w_p1 (by omega)]
          refine ih _ (l7 + 1) (by omega) ?_ (fun i hi => ?_)
          · rw [h6, hs]
            show _ = 1 + (zsm H (pk4 l2 l3 l4 l5) l7 + H 131 (pk4 l2 l3 l4 l5 l7))
            omega
          · by_cases z : i = l7
            · rw [z, ← hs]; exact ⟨hv, w⟩
            · exact hp i (by omega)
      refine ⟨by omega, brT (by omega) ?_⟩
      by_cases z0 : (l7 : Int) = 0
      · exact brT z0 (n67 _ (by unfold pk4; rw [if_pos z0]))
      refine brF z0 ?_
      by_cases z1 : (l7 : Int) = 1
      · exact brT z1 (n67 _ (by unfold pk4; rw [if_neg z0, if_pos z1]))
      refine brF z1 ?_
      by_cases z2 : (l7 : Int) = 2
      · exact brT z2 (n67 _ (by unfold pk4; rw [if_neg z0, if_neg z1, if_pos z2]))
      · exact brF z2 (n67 _ (by unfold pk4; rw [if_neg z0, if_neg z1, if_neg z2]))
  exact ⟨(H 44 l1).toNat + 1, key (H 44 l1).toNat 1 0 (by rw [e44]; omega) (by rfl) (fun i hi => absurd hi (Nat.not_lt_zero _))⟩
end VM2
