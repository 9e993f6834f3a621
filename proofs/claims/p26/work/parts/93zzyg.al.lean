theorem vlk_rf (H : e3_H) (v : Int) : vlk H v v := ⟨rfl, rfl, fun _ _ _ => rfl⟩
theorem vlk_sy {H : e3_H} {i v : Int} (hi : VR1 H i) (hv : VR1 H v) (h : vlk H i v) : vlk H v i := ⟨h.1.symm, h.2.1.symm, fun j j0 j1 => (h.2.2 j j0 (by rw [VR1_30 hi hv h.1 h.2.1]; exact j1)).symm⟩
theorem vlk_tr {H : e3_H} {a b c : Int} (ha : VR1 H a) (hb : VR1 H b) (h1 : vlk H a b) (h2 : vlk H b c) : vlk H a c := ⟨h1.1.trans h2.1, h1.2.1.trans h2.2.1, fun j j0 j1 => (h1.2.2 j j0 j1).trans (h2.2.2 j j0 (by rw [← VR1_30 ha hb h1.1 h1.2.1]; exact j1))⟩
/-- VALUES have the same first one iff they are alike at one level -/
theorem tw_iff {H : e3_H} (hV : VR H) {a b : Int} (ha : 0 ≤ a ∧ a < H 26 1) (hb : 0 ≤ b ∧ b < H 26 1) : H 32 a = H 32 b ↔ vlk H a b := by
  have va := hV.2 a ha.1 ha.2
  have vb := hV.2 b hb.1 hb.2
  have fa := va.2.2.2.2.2.2
  have fb := vb.2.2.2.2.2.2
  have ta := hV.2 (H 32 a) fa.1.1 (by have := fa.1.2; omega)
  have tb := hV.2 (H 32 b) fb.1.1 (by have := fb.1.2; omega)
  have la : vlk H (H 32 a) a := by
    rcases fa.2.1 with z | z
    · rw [z]; exact vlk_rf H a
    · exact z
  have lb : vlk H (H 32 b) b := by
    rcases fb.2.1 with z | z
    · rw [z]; exact vlk_rf H b
    · exact z
  constructor
  · intro e
    rw [e] at la
    exact vlk_tr va tb (vlk_sy tb va la) lb
  · intro h
    by_cases z1 : H 32 a < H 32 b
    · exact absurd (vlk_tr ta va la h) (fb.2.2 (H 32 a) fa.1.1 z1)
    by_cases z2 : H 32 b < H 32 a
    · exact absurd (vlk_tr tb vb lb (vlk_sy va vb h)) (fa.2.2 (H 32 b) fb.1.1 z2)
    omega
theorem lab_iff {H : e3_H} {a b : Int} (ha : VR1 H a) (hb : VR1 H b) : (H 27 a = H 27 b ∧ H 28 a = H 28 b) ↔ (H 128 a = H 128 b ∧ H 129 a = H 129 b ∧ H 130 a = H 130 b) := by
  obtain ⟨⟨a1, _, a3, _⟩, a4, a5, a6, a7, _⟩ := ha
  obtain ⟨⟨b1, _, b3, _⟩, b4, b5, b6, b7, _⟩ := hb
  constructor
  · rintro ⟨e1, e2⟩
    refine ⟨by omega, ?_⟩
    rcases (show H 27 a ≤ 1 ∨ H 27 a = 2 ∨ H 27 a = 3 ∨ H 27 a = 4 by omega) with w | w | w | w
    · obtain ⟨x1, x2, _⟩ := a4 w
      obtain ⟨y1, y2, _⟩ := b4 (by omega)
      omega
    · obtain ⟨x1, _, x2, _⟩ := a5 w
      obtain ⟨y1, _, y2, _⟩ := b5 (by omega)
      rw [x2, y2, ← x1, ← y1, e2]
      exact ⟨rfl, rfl⟩
    · obtain ⟨x1, x2, x3⟩ := a6 w
      obtain ⟨y1, y2, y3⟩ := b6 (by omega)
      omega
    · obtain ⟨_, x1, x2, _⟩ := a7 w
      obtain ⟨_, y1, y2, _⟩ := b7 (by omega)
      omega
  · rintro ⟨e1, e2, e3⟩
    refine ⟨by omega, ?_⟩
    rcases (show H 27 a ≤ 1 ∨ H 27 a = 2 ∨ H 27 a = 3 ∨ H 27 a = 4 by omega) with w | w | w | w
    · obtain ⟨x1, x2, _⟩ := a4 w
      obtain ⟨y1, y2, _⟩ := b4 (by omega)
      omega
    · obtain ⟨x1, _⟩ := a5 w
      obtain ⟨y1, _⟩ := b5 (by omega)
      omega
    · obtain ⟨x1, x2, x3⟩ := a6 w
      obtain ⟨y1, y2, y3⟩ := b6 (by omega)
      omega
    · obtain ⟨_, x1, x2, _⟩ := a7 w
      obtain ⟨_, y1, y2, _⟩ := b7 (by omega)
      omega
theorem zps_al {H : e3_H} {a b : Int} : ∀ n : Nat, (∀ i : Nat, i < n → H 131 (H 132 (4 * a + i)) = H 131 (H 132 (4 * b + i))) → zps H a n = zps H b n := by
  intro n
  induction n with
  | zero => intro _; rfl
  | succ n ih =>
    intro e
    show zps H a n + H 131 (H 132 (4 * a + n)) = zps H b n + H 131 (H 132 (4 * b + n))
    rw [ih (fun i hi => e i (by omega)), e n (by omega)]
/-- what KINDS of both say of parts -/
def KPT (H : e3_H) : Prop := ∀ k : Int, 0 ≤ k → k < H 8 0 → H 12 k = H 44 k ∧ 0 ≤ H 44 k ∧ H 44 k ≤ 4
/-- the parts of two VALUES of one KIND, here and there -/
theorem pt_iff {H : e3_H} (hK : KPT H) {a b : Int} (ha : VR1 H a) (hb : VR1 H b) (e1 : H 27 a = H 27 b) (e2 : H 28 a = H 28 b) (P : Int → Int → Prop) : (∀ j : Int, 0 ≤ j → j < H 30 a → P (H 31 (4 * a + j)) (H 31 (4 * b + j))) ↔ (H 128 a = 4 → ∀ i : Int, 0 ≤ i → i < H 44 (H 129 a) → P (H 132 (4 * a + i)) (H 132 (4 * b + i))) := by
  have w1 := ha.1.1
  have e30 := VR1_30 ha hb e1 e2
  by_cases z : H 27 a = 4
  · obtain ⟨x1, x2, _, x4, x5⟩ := ha.2.2.2.2.1 z
    obtain ⟨y1, y2, _, y4, y5⟩ := hb.2.2.2.2.1 (by omega)
    have k := (hK _ x1.1 x1.2).1
    rw [← x2, ← k, ← x4]
    constructor
    · intro h _ i i0 i1
      rw [← (x5 i i0 i1).1.1, ← (y5 i i0 (by omega)).1.1]
      exact h i i0 i1
    · intro h j j0 j1
      rw [(x5 j j0 j1).1.1, (y5 j j0 (by omega)).1.1]
      exact h (by omega) j j0 j1
  · have := (ha.2.2.2.2.2.1 z).1
    exact ⟨fun _ y => absurd (by omega) z, fun _ j j0 j1 => by omega⟩
theorem al_131 {H : e3_H} (hM : zMV H) (hV : VR H) (hK : KPT H) : ∀ (n : Nat) (a b : Int), a < n → 0 ≤ a ∧ a < H 26 1 → 0 ≤ b ∧ b < H 26 1 → H 32 a = H 32 b → H 131 a = H 131 b := by
  intro n
  induction n with
  | zero => intro a b h0 ha _ _; omega
  | succ n ih =>
    intro a b hn ha hb e
    have va := hV.2 a ha.1 ha.2
    have vb := hV.2 b hb.1 hb.2
    have hc := hV.1
    have lk := (tw_iff hV ha hb).mp e
    obtain ⟨l1, l2, l3⟩ := id lk
    have w1 := va.1.1
    have w2 := vb.1.1
    by_cases z : H 27 a = 4
    · obtain ⟨x1, x2, _, x4, x5⟩ := va.2.2.2.2.1 z
      obtain ⟨y1, y2, _, y4, y5⟩ := vb.2.2.2.2.1 (by omega)
      have k := hK _ x1.1 x1.2
      have s1 := ((hM.2.2 a ha.1 (by omega)).2 (by omega)).2.2
      have s2 := ((hM.2.2 b hb.1 (by omega)).2 (by omega)).2.2
      have e9 : H 129 a = H 129 b := by omega
      rw [s1, s2, ← e9, ← x2]
      have e30 := VR1_30 va vb l1 l2
      rw [zps_al (a := a) (b := b) _ (fun i hi => ?_)]
      have i1 : (i : Int) < H 30 a := by omega
      have p1 := x5 i (by omega) i1
      have p2 := y5 i (by omega) (by omega)
      rw [← p1.1.1, ← p2.1.1]
      exact ih _ _ (by omega) (by omega) (by omega) (l3 i (by omega) i1)
    · have q1 := (va.2.2.2.2.2.1 z).2
      have q2 := (vb.2.2.2.2.2.1 (by omega)).2
      have r1 := va.1.2.1
      have r2 := vb.1.2.1
      omega
section NMA
variable {Q : Int → e3_H → e3_G → Prop} {H : e3_H} {G : e3_G}
theorem nM_alike {P : Int → Int → Prop} (h : zMV H) (hk : zMK H) (hP : ∀ a b : Int, (0 ≤ a ∧ a < H 40 109) → (0 ≤ b ∧ b < H 40 109) → (P a b ↔ ((H 128 a = H 128 b ∧ H 129 a = H 129 b ∧ H 130 a = H 130 b) ∧ H 131 a = H 131 b) ∧ (H 128 a = 4 → ∀ i : Int, 0 ≤ i → i < H 44 (H 129 a) → P (H 132 (4 * a + i)) (H 132 (4 * b + i))))) (l1 l2 : Int) (hl1 : 0 ≤ l1 ∧ l1 < H 40 109) (hl2 : 0 ≤ l2 ∧ l2 < H 40 109) (hy : P l1 l2 → ∀ K, (∀ a k : Int, a ≠ 133 → a ≠ 134 → K a k = H a k) → Q 1 K G) (hn : ¬ P l1 l2 → ∀ K, (∀ a k : Int, a ≠ 133 → a ≠ 134 → K a k = H a k) → Q 0 K G) : wM_alike Q l1 l2 H G := by
  obtain ⟨hc, h2, h3⟩ := id h
  obtain ⟨m, k1, k2, k3, k4⟩ := hk
  have key : ∀ (n l3 : Nat) (K : e3_H), (∀ a k : Int, a ≠ 133 → a ≠ 134 → K a k = H a k) → (∀ i : Nat, i < l3 → (0 ≤ K 133 i ∧ K 133 i < H 40 109) ∧ 0 ≤ K 134 i ∧ K 134 i < H 40 109) → zst H K l3 ≤ n → n ≤ 60 → ((∀ i : Nat, i < l3 → P (K 133 i) (K 134 i)) ↔ P l1 l2) → wM_alike_34 Q (n + 1) l3 K G := by
    intro n
    induction n with
    | zero =>
      intro l3 K hf hv hz hn hq
      have := zst_ge (H := H) (K := K) l3 (fun i hi => (h3 _ (hv i hi).1.1 (hv i hi).1.2).1.1)
      exact brF (by omega) (hy (hq.mp (fun i hi => by omega)) K hf)
    | succ n ih =>
      intro l3 K hf hv hz hn60 hq
      have hge := zst_ge (H := H) (K := K) l3 (fun i hi => (h3 _ (hv i hi).1.1 (hv i hi).1.2).1.1)
      by_cases c : 0 < l3
      case neg => exact brF (by omega) (hy (hq.mp (fun i hi => absurd hi (by omega))) K hf)
      obtain ⟨p, rfl⟩ : ∃ p, l3 = p + 1 := ⟨l3 - 1, by omega⟩
      have ep : e3_w32 (((p + 1 : Nat) : Int) + (-1)) = (p : Int) := by rw [e3_w32_id (by omega) (by omega)]; omega
      obtain ⟨⟨v0, v1⟩, w0, w1⟩ := hv p (by omega)
      have zp : zst H K (p + 1) = zst H K p + H 131 (K 133 p) := rfl
      obtain ⟨s1, s2⟩ := h3 _ v0 v1
      have t2 := (h3 _ w0 w1).2
      have hpp := hP _ _ ⟨v0, v1⟩ ⟨w0, w1⟩
      have fin : ¬ P (K 133 p) (K 134 p) → Q 0 K G := fun z => hn (fun y => z (hq.mpr y p (by omega))) K hf
      have q1 : ∀ a k : Int, 128 ≤ a → a ≤ 131 → K a k = H a k := fun a k a1 a2 => hf a k (by omega) (by omega)
      refine brT (by omega) ?_
      rw [ep]
      refine ⟨by omega, by omega, by omega, by omega, fun c1 => ⟨by omega, by omega, fun c2 => ⟨by omega, by omega, fun c3 => ⟨by omega, by omega, fun c4 => ?_, fun c => fin (fun y => c ?_)⟩, fun c => fin (fun y => c ?_)⟩, fun c => fin (fun y => c ?_)⟩, fun c => fin (fun y => c ?_)⟩
      case refine_2 => rw [q1 131 _ (by decide) (by decide), q1 131 _ (by decide) (by decide)]; exact (hpp.mp y).1.2
      case refine_3 => rw [q1 130 _ (by decide) (by decide), q1 130 _ (by decide) (by decide)]; exact (hpp.mp y).1.1.2.2
      case refine_4 => rw [q1 129 _ (by decide) (by decide), q1 129 _ (by decide) (by decide)]; exact (hpp.mp y).1.1.2.1
      case refine_5 => rw [q1 128 _ (by decide) (by decide), q1 128 _ (by decide) (by decide)]; exact (hpp.mp y).1.1.1
      rw [q1 128 _ (by decide) (by decide), q1 128 _ (by decide) (by decide)] at c1
      rw [q1 129 _ (by decide) (by decide), q1 129 _ (by decide) (by decide)] at c2
      rw [q1 130 _ (by decide) (by decide), q1 130 _ (by decide) (by decide)] at c3
      rw [q1 131 _ (by decide) (by decide), q1 131 _ (by decide) (by decide)] at c4
      have hq2 : ((∀ i : Nat, i < p → P (K 133 i) (K 134 i)) ∧ P (K 133 p) (K 134 p)) ↔ P l1 l2 := by
        rw [← hq]
        constructor
        · rintro ⟨a, b⟩ i hi
          by_cases z : i = p
          · rw [z]; exact b
          · exact a i (by omega)
        · intro a
          exact ⟨fun i hi => a i (by omega), a p (by omega)⟩
      clear hq fin
      generalize hV : K 133 p = v at v0 v1 zp s1 s2 hpp c1 c2 c3 c4 hq2
      generalize hW : K 134 p = w at w0 w1 t2 hpp c1 c2 c3 c4 hq2
      have e128 : K 128 v = H 128 v := hf 128 v (by decide) (by decide)
      by_cases h4 : H 128 v = 4
      · obtain ⟨b1, b2, b3⟩ := s2 h4
        obtain ⟨g1, g2, g3⟩ := t2 (by omega)
        have h44 := k4 (H 129 v) b1.1 (by omega)
        have psz := zps_ge (H := H) (v := v) (H 44 (H 129 v)).toNat (fun i hi => (h3 _ (b2 i (by omega) (by omega)).1 (b2 i (by omega) (by omega)).2).1.1)
        have push : ∀ (d l6 : Nat) (K' : e3_H), (l6 : Int) + d = H 44 (H 129 v) → (∀ a k : Int, a ≠ 133 → a ≠ 134 → K' a k = H a k) → (∀ i : Nat, i < p + l6 → (0 ≤ K' 133 i ∧ K' 133 i < H 40 109) ∧ 0 ≤ K' 134 i ∧ K' 134 i < H 40 109) → zst H K' (p + l6) = zst H K p + zps H v l6 → (∀ i : Nat, i < p → K' 133 i = K 133 i ∧ K' 134 i = K 134 i) → (∀ i : Nat, i < l6 → K' 133 ((p + i : Nat) : Int) = H 132 (4 * v + i) ∧ K' 134 ((p + i : Nat) : Int) = H 132 (4 * w + i)) → wM_alike_131 Q (fun l3 H G => wM_alike_34 Q (n + 1) l3 H G) (d + 1) ((p + l6 : Nat) : Int) v w l6 K' G := by
          intro d
          induction d with
          | zero =>
            intro l6 K' hd hf' hv' hz' hlo hhi
            refine ⟨by omega, brT (by rw [hf' 128 v (by decide) (by decide)]; exact h4) ⟨by omega, by rw [hf' 129 v (by decide) (by decide)]; omega, ?_⟩⟩
            rw [hf' 129 v (by decide) (by decide), hf' 44 _ (by decide) (by decide)]
            refine brF (by omega) (ih (p + l6) K' hf' hv' ?_ (by omega) ?_)
            · rw [hz', show l6 = (H 44 (H 129 v)).toNat by omega]
              omega
            · rw [← hq2]
              constructor
              · intro a
                refine ⟨fun i hi => ?_, hpp.mpr ⟨⟨⟨c1, c2, c3⟩, c4⟩, fun _ i i0 i1 => ?_⟩⟩
                · have := a i (by omega)
                  rw [(hlo i hi).1, (hlo i hi).2] at this
                  exact this
                · have := a (p + i.toNat) (by omega)
                  rw [(hhi i.toNat (by omega)).1, (hhi i.toNat (by omega)).2, show ((i.toNat : Nat) : Int) = i by omega] at this
                  exact this
              · rintro ⟨a, b⟩ i hi
                by_cases z : i < p
                · rw [(hlo i z).1, (hlo i z).2]
                  exact a i z
                · have := (hpp.mp b).2 h4 ((i - p : Nat) : Int) (by omega) (by omega)
                  have y := hhi (i - p) (by omega)
                  rw [show p + (i - p) = i by omega] at y
                  rw [y.1, y.2]
                  exact this
          | succ d ihd =>
            intro l6 K' hd hf' hv' hz' hlo hhi
            have part := b2 l6 (by omega) (by omega)
            have part2 := g2 l6 (by omega) (by rw [← c2]; omega)
            have hzz := psz.2 l6 (by omega)
            have hge' := zst_ge (H := H) (K := K') (p + l6) (fun i hi => (h3 _ (hv' i hi).1.1 (hv' i hi).1.2).1.1)
            have hzp := zst_ge (H := H) (K := K) p (fun i hi => (h3 _ (hv i (by omega)).1.1 (hv i (by omega)).1.2).1.1)
            refine ⟨by omega, brT (by rw [hf' 128 v (by decide) (by decide)]; exact h4) ⟨by omega, by rw [hf' 129 v (by decide) (by decide)]; omega, ?_⟩⟩
            rw [hf' 129 v (by decide) (by decide), hf' 44 _ (by decide) (by decide)]
            refine brT (by omega) ?_
            rw [e3_w32_id (x := 4 * v) (by omega) (by omega), e3_w32_id (x := 4 * v + (l6 : Int)) (by omega) (by omega), e3_w32_id (x := 4 * w) (by omega) (by omega), e3_w32_id (x := 4 * w + (l6 : Int)) (by omega) (by omega)]
            refine ⟨by omega, by omega, fun H4 f4 => ⟨by omega, by omega, fun H7 f7 => ?_⟩⟩
            rw [w_p1 (by omega), w_p1 (by omega)]
            have g4 : H4 132 (4 * w + (l6 : Int)) = H 132 (4 * w + (l6 : Int)) := by rw [f4, e3_up_ne (ne_1 (by decide))]; exact hf' 132 _ (by decide) (by decide)
            have g5 : K' 132 (4 * v + (l6 : Int)) = H 132 (4 * v + (l6 : Int)) := hf' 132 _ (by decide) (by decide)
            rw [g4] at f7
            rw [g5] at f4
            have old3 : ∀ k : Int, k ≠ ((p + l6 : Nat) : Int) → H7 133 k = K' 133 k := fun k z => by rw [f7, e3_up_ne (ne_1 (by decide)), f4, e3_up_ne (ne_2 z)]
            have old4 : ∀ k : Int, k ≠ ((p + l6 : Nat) : Int) → H7 134 k = K' 134 k := fun k z => by rw [f7, e3_up_ne (ne_2 z), f4, e3_up_ne (ne_1 (by decide))]
            have new3 : H7 133 ((p + l6 : Nat) : Int) = H 132 (4 * v + (l6 : Int)) := by rw [f7, e3_up_ne (ne_1 (by decide)), f4, e3_up_self]
            have new4 : H7 134 ((p + l6 : Nat) : Int) = H 132 (4 * w + (l6 : Int)) := by rw [f7, e3_up_self]
            refine ihd (l6 + 1) H7 (by omega) (fun a k a1 a2 => ?_) (fun i hi => ?_) ?_ (fun i hi => ?_) (fun i hi => ?_)
            · rw [f7, e3_up_ne (ne_1 a2), f4, e3_up_ne (ne_1 a1)]; exact hf' a k a1 a2
            · by_cases z : i = p + l6
              · rw [z, new3, new4]
                exact ⟨part, part2⟩
              · rw [old3 i (by omega), old4 i (by omega)]
                exact hv' i (by omega)
            · show zst H H7 (p + l6) + H 131 (H7 133 ((p + l6 : Nat) : Int)) = zst H K p + (zps H v l6 + H 131 (H 132 (4 * v + l6)))
              rw [new3, zst_eq (K := K') (p + l6) (fun i hi => old3 i (by omega)), hz']
              omega
            · rw [old3 i (by omega), old4 i (by omega)]
              exact hlo i hi
            · by_cases z : i = l6
              · rw [z]; exact ⟨new3, new4⟩
              · rw [old3 _ (by omega), old4 _ (by omega)]
                exact hhi i (by omega)
        have := push (H 44 (H 129 v)).toNat 0 K (by omega) hf (fun i hi => hv i (by omega)) (by show zst H K (p + 0) = zst H K p + 0; rw [Nat.add_zero]; omega) (fun _ _ => ⟨rfl, rfl⟩) (fun i hi => absurd hi (Nat.not_lt_zero _))
        exact ⟨_, this⟩
      · refine ⟨1, ⟨by omega, brF (by rw [e128]; exact h4) (ih p K hf (fun i hi => hv i (by omega)) (by omega) (by omega) ?_)⟩⟩
        rw [← hq2]
        exact ⟨fun a => ⟨a, hpp.mpr ⟨⟨⟨c1, c2, c3⟩, c4⟩, fun z => absurd z h4⟩⟩, fun a => a.1⟩
  have is1 : ∀ (x : Int) (R : Int → e3_H → e3_G → Prop), (0 ≤ x ∧ x < H 40 109) → R 1 H G → wM_isValue R x H G := fun x R hx hR => cM_in (fun _ _ => ⟨Or.inr rfl, hR⟩) (fun w => absurd ⟨hx.1, by rw [e3_w32_id (by omega) (by omega)]; omega⟩ w)
  refine is1 l1 _ hl1 (brF (by decide) (is1 l2 _ hl2 (brF (by decide) ?_)))
  intro H7 e7 H8 e8
  have s := (h3 l1 hl1.1 hl1.2).1
  have n3 : H8 133 0 = l1 := by rw [e8, e3_up_ne (ne_1 (by decide)), e7, e3_up_self]
  have n4 : H8 134 0 = l2 := by rw [e8, e3_up_self]
  refine ⟨61, key 60 1 H8 (fun a k a1 a2 => by rw [e8, e3_up_ne (ne_1 a2), e7, e3_up_ne (ne_1 a1)]) (fun i hi => ?_) ?_ (by omega) ?_⟩
  · have : i = 0 := by omega
    subst this
    rw [show ((0 : Nat) : Int) = 0 from rfl, n3, n4]
    exact ⟨hl1, hl2⟩
  · show 0 + H 131 (H8 133 0) ≤ _
    rw [n3]
    omega
  · constructor
    · intro a
      have := a 0 (by omega)
      rw [show ((0 : Nat) : Int) = 0 from rfl, n3, n4] at this
      exact this
    · intro a i hi
      have : i = 0 := by omega
      subst this
      rw [show ((0 : Nat) : Int) = 0 from rfl, n3, n4]
      exact a
end NMA
/-- alike, in both -/
theorem e1_alike_e {n : Nat} {H : e3_H} {G : e3_G} {R : Int → Int → e3_H → e3_G → Prop} {W : Int → e3_H → e3_G → Prop} {l1 l2 : Int} (h : JI n H G) (hE : E1 H) (hR : JFe n H G E1 R) (hW : JW H R (fun Q H G => wM_alike Q l1 l2 H G) W) : wP_alike W l1 l2 H G := by
  have fin : ∀ (x : Int) (K : e3_H), (∀ a k : Int, a ≠ 133 → a ≠ 134 → K a k = H a k) → R x x K G := fun x K f => by
    have hJ : JI n K G := JI_m h ⟨fun a k h1 h2 => f a k (by omega) (by omega), fun k _ => f 40 k (by decide) (by decide), by rw [f 40 109 (by decide) (by decide)]; exact Int.le_refl _⟩ (zMV_eq h.2.2.2.1.1 (fun a k h1 h2 => f a k (by omega) (by omega)) (f 40 109 (by decide) (by decide)) (by rw [f 40 10 (by decide) (by decide)]; exact Int.le_refl _) (fun k _ _ => f 44 k (by decide) (by decide)))
    exact hR x n K G hJ (E1_l h hE n K G hJ f) (by omega) (fun k => f 0 k (by decide) (by decide))
  have no : R (-1) (-1) H G := fin (-1) H (fun _ _ _ _ => rfl)
  have h26 := h.2.2.1.1.1
  have hV := hE.1
  have hc := hE.1.1
  have is1 : ∀ (x : Int) (R : Int → e3_H → e3_G → Prop), (0 ≤ x ∧ x < H 26 1) → R 1 H G → wM_isValue R x H G := fun x R hx hR => cM_in (fun _ _ => ⟨Or.inr rfl, hR⟩) (fun w => absurd ⟨hx.1, by rw [e3_w32_id (by omega) (by omega)]; omega⟩ w)
  have is0 : ∀ (x : Int) (R : Int → e3_H → e3_G → Prop), ¬ (0 ≤ x ∧ x < H 26 1) → R 0 H G → wM_isValue R x H G := fun x R hx hR => zM_isValue h.2.2.2.1.1 x (fun z => absurd (by rw [hc]; exact z) hx) hR
  by_cases a : 0 ≤ l1 ∧ l1 < H 26 1
  case neg => exact zL_has l1 (fun z => absurd z a) (brT rfl (hW (-1) H G (fun _ => rfl) (is0 l1 _ a (brT rfl no))))
  by_cases b : 0 ≤ l2 ∧ l2 < H 26 1
  case neg => exact brF (by omega) (brT a.2 ⟨Or.inr rfl, brF (by decide) (zL_has l2 (fun z => absurd z b) (brT rfl (hW (-1) H G (fun _ => rfl) (is1 l1 _ a (brF (by decide) (is0 l2 _ b (brT rfl no)))))))⟩)
  obtain ⟨σ, m, hd, hk, ht, h10⟩ := JI_kd h
  have h8 := hd.1
  have hK : KPT H := fun k k0 k1 => by
    have c := (hd.2 k.toNat (by omega)).2.2.1
    have d := (hk.2.2.2.2 k.toNat (by omega))
    rw [show ((k.toNat : Nat) : Int) = k by omega] at c d
    rw [c, ht 44 _ (by decide) (by decide)]
    exact ⟨rfl, d.1, d.2.1⟩
  have hP : ∀ a b : Int, (0 ≤ a ∧ a < H 40 109) → (0 ≤ b ∧ b < H 40 109) → (H 32 a = H 32 b ↔ ((H 128 a = H 128 b ∧ H 129 a = H 129 b ∧ H 130 a = H 130 b) ∧ H 131 a = H 131 b) ∧ (H 128 a = 4 → ∀ i : Int, 0 ≤ i → i < H 44 (H 129 a) → H 32 (H 132 (4 * a + i)) = H 32 (H 132 (4 * b + i)))) := fun a b ha hb => by
    rw [← hc] at ha hb
    have va := hV.2 a ha.1 ha.2
    have vb := hV.2 b hb.1 hb.2
    constructor
    · intro e
      obtain ⟨x1, x2, x3⟩ := (tw_iff hV ha hb).mp e
      exact ⟨⟨(lab_iff va vb).mp ⟨x1, x2⟩, al_131 h.2.2.2.1.1 hV hK (a.toNat + 1) a b (by omega) ha hb e⟩, (pt_iff hK va vb x1 x2 (fun u v => H 32 u = H 32 v)).mp x3⟩
    · rintro ⟨⟨x1, _⟩, x3⟩
      obtain ⟨y1, y2⟩ := (lab_iff va vb).mpr x1
      exact (tw_iff hV ha hb).mpr ⟨y1, y2, (pt_iff hK va vb y1 y2 (fun u v => H 32 u = H 32 v)).mpr x3⟩
  refine brF (by omega) (brT a.2 ⟨Or.inr rfl, brF (by decide) (brF (by omega) (brT b.2 ⟨Or.inr rfl, brF (by decide) ⟨by omega, by omega, fun e => ?_, fun e => ?_⟩⟩))⟩)
  · exact hW 1 H G (fun _ => rfl) (nM_alike (P := fun a b => H 32 a = H 32 b) h.2.2.2.1.1 (JI_K h).2.1 hP l1 l2 (by omega) (by omega) (fun _ K f => fin 1 K f) (fun z => absurd e z))
  · exact hW 0 H G (fun _ => rfl) (nM_alike (P := fun a b => H 32 a = H 32 b) h.2.2.2.1.1 (JI_K h).2.1 hP l1 l2 (by omega) (by omega) (fun z => absurd z e) (fun _ K f => fin 0 K f))
