theorem a_of_eq {f g : Int → Int} {o : Int} {m : Nat} (hu : a_up f m) (e : ∀ k : Nat, k < m → g k = f k) : ∀ (n : Nat) (j : Int), j < (m : Int) → a_of g o n j = a_of f o n j := by
  intro n
  induction n with
  | zero => intro j _; rfl
  | succ n ih =>
    intro j hj
    show (if j < 0 then false else if j = o then true else a_of g o n (g j)) = (if j < 0 then false else if j = o then true else a_of f o n (f j))
    by_cases z : j < 0
    · rw [if_pos z, if_pos z]
    · rw [if_neg z, if_neg z]
      have ej : ((j.toNat : Nat) : Int) = j := by omega
      have hg := e j.toNat (by omega)
      have hf := hu j.toNat (by omega)
      rw [ej] at hg hf
      by_cases y : j = o
      · rw [if_pos y, if_pos y]
      · rw [if_neg y, if_neg y, hg]
        exact ih _ (by omega)
theorem sOf_eq {H K : e3_H} {m : Nat} (hu : a_up (H 43) m) (e : ∀ k : Nat, k < m → K 43 k = H 43 k) {w l s : Int} (hl : w = 4 → l < (m : Int)) : sOf K w l s = sOf H w l s := by
  unfold sOf
  by_cases z : w = 4
  · rw [a_of_eq hu e 24 l (hl z)]
  · rw [decide_eq_false z, Bool.false_and, Bool.false_and]
/-- one VALUE here and there: what, label; number, text; how many parts -/
def VR1 (H : e3_H) (v : Int) : Prop := (H 27 v = H 128 v ∧ H 29 v = H 131 v ∧ (0 ≤ H 27 v ∧ H 27 v ≤ 4) ∧ 1 ≤ H 29 v ∧ H 29 v ≤ 60) ∧ (H 27 v ≤ 1 → H 28 v = H 129 v ∧ H 130 v = 0 ∧ e3_i32 (H 28 v)) ∧ (H 27 v = 2 → H 28 v = H 130 v ∧ (tS (tB (H 28 v)) 8).1 = 1 ∧ H 129 v = (tS (tB (H 28 v)) 8).2 ∧ e3_i64 (H 28 v)) ∧ (H 27 v = 3 → H 28 v = -1 ∧ H 129 v = -4 ∧ H 130 v = 0) ∧ (H 27 v = 4 → (0 ≤ H 28 v ∧ H 28 v < H 8 0) ∧ H 28 v = H 129 v ∧ H 130 v = 0 ∧ H 30 v = H 12 (H 28 v) ∧ ∀ i : Int, 0 ≤ i → i < H 30 v → (H 31 (4 * v + i) = H 132 (4 * v + i) ∧ 0 ≤ H 31 (4 * v + i) ∧ H 31 (4 * v + i) < v) ∧ sOf H (H 27 (H 31 (4 * v + i))) (H 28 (H 31 (4 * v + i))) (H 45 (4 * H 28 v + i)) = true) ∧ (H 27 v ≠ 4 → H 30 v = 0 ∧ H 29 v = 1) ∧ vFl H v (H 32 v)
def VR (H : e3_H) : Prop := H 26 1 = H 40 109 ∧ ∀ v : Int, 0 ≤ v → v < H 26 1 → VR1 H v
/-- KINDS that came later, counted -/
def LT (H : e3_H) : Prop := H 40 11 = H 8 0 - H 2 7 ∧ 0 ≤ H 2 7 ∧ H 2 7 ≤ H 8 0
def E1 (H : e3_H) : Prop := VR H ∧ LT H
/-- what leaves VALUES as they are: KINDS that were there stay -/
def KS (H K : e3_H) : Prop := H 8 0 ≤ K 8 0 ∧ (∀ k : Int, 0 ≤ k → k < H 8 0 → K 12 k = H 12 k) ∧ (∀ k : Nat, (k : Int) < H 8 0 → K 43 k = H 43 k) ∧ (∀ k : Int, 0 ≤ k → k < 4 * H 8 0 → K 45 k = H 45 k) ∧ a_up (H 43) (H 8 0).toNat ∧ ∀ k : Int, 0 ≤ k → k < H 8 0 → H 12 k ≤ 4
theorem vlk_eq {H K : e3_H} {i v : Int} (e : ∀ a k : Int, (27 ≤ a ∧ a ≤ 30) ∨ (a = 32 ∧ k < v) → 0 ≤ k → k ≤ v → K a k = H a k) (e31 : ∀ w j : Int, 0 ≤ w → w ≤ v → 0 ≤ j → j < H 30 w → K 31 (4 * w + j) = H 31 (4 * w + j) ∧ 0 ≤ H 31 (4 * w + j) ∧ H 31 (4 * w + j) < v) (i0 : 0 ≤ i) (iv : i ≤ v) (h30 : H 27 i = H 27 v → H 28 i = H 28 v → H 30 i = H 30 v) : vlk K i v ↔ vlk H i v := by
  unfold vlk
  rw [e 27 i (Or.inl (by decide)) i0 iv, e 27 v (Or.inl (by decide)) (by omega) (Int.le_refl _), e 28 i (Or.inl (by decide)) i0 iv, e 28 v (Or.inl (by decide)) (by omega) (Int.le_refl _), e 30 i (Or.inl (by decide)) i0 iv]
  constructor
  · rintro ⟨a, b, c⟩
    refine ⟨a, b, fun j j0 j1 => ?_⟩
    have x := e31 i j i0 iv j0 j1
    have y := e31 v j (by omega) (Int.le_refl _) j0 (by rw [← h30 a b]; exact j1)
    have z := c j j0 j1
    rw [x.1, y.1, e 32 _ (Or.inr ⟨rfl, by omega⟩) x.2.1 (by omega), e 32 _ (Or.inr ⟨rfl, by omega⟩) y.2.1 (by omega)] at z
    exact z
  · rintro ⟨a, b, c⟩
    refine ⟨a, b, fun j j0 j1 => ?_⟩
    have x := e31 i j i0 iv j0 j1
    have y := e31 v j (by omega) (Int.le_refl _) j0 (by rw [← h30 a b]; exact j1)
    rw [x.1, y.1, e 32 _ (Or.inr ⟨rfl, by omega⟩) x.2.1 (by omega), e 32 _ (Or.inr ⟨rfl, by omega⟩) y.2.1 (by omega)]
    exact c j j0 j1
theorem vFl_eq {H K : e3_H} {v tw : Int} (e : ∀ a k : Int, (27 ≤ a ∧ a ≤ 30) ∨ (a = 32 ∧ k < v) → 0 ≤ k → k ≤ v → K a k = H a k) (e31 : ∀ w j : Int, 0 ≤ w → w ≤ v → 0 ≤ j → j < H 30 w → K 31 (4 * w + j) = H 31 (4 * w + j) ∧ 0 ≤ H 31 (4 * w + j) ∧ H 31 (4 * w + j) < v) (h30 : ∀ i : Int, 0 ≤ i → i ≤ v → H 27 i = H 27 v → H 28 i = H 28 v → H 30 i = H 30 v) (h : vFl H v tw) : vFl K v tw := by
  obtain ⟨a, b, c⟩ := h
  refine ⟨a, ?_, fun i i0 i1 z => c i i0 i1 ((vlk_eq e e31 i0 (by omega) (h30 i i0 (by omega))).mp z)⟩
  rcases b with b | b
  · exact Or.inl b
  · exact Or.inr ((vlk_eq e e31 a.1 a.2 (h30 tw a.1 a.2)).mpr b)
/-- how many parts a VALUE has: what its KIND says -/
theorem VR1_30 {H : e3_H} {i v : Int} (hi : VR1 H i) (hv : VR1 H v) (a : H 27 i = H 27 v) (b : H 28 i = H 28 v) : H 30 i = H 30 v := by
  by_cases z : H 27 v = 4
  · rw [(hv.2.2.2.2.1 z).2.2.2.1, (hi.2.2.2.2.1 (by omega)).2.2.2.1, b]
  · rw [(hv.2.2.2.2.2.1 z).1, (hi.2.2.2.2.2.1 (by omega)).1]
theorem VR1_pt {H : e3_H} {w j : Int} (h : VR1 H w) (j0 : 0 ≤ j) (j1 : j < H 30 w) : 0 ≤ H 31 (4 * w + j) ∧ H 31 (4 * w + j) < w := by
  by_cases z : H 27 w = 4
  · exact ((h.2.2.2.2.1 z).2.2.2.2 j j0 j1).1.2
  · have := (h.2.2.2.2.2.1 z).1
    omega
theorem VR1_eq {H K : e3_H} {v : Int} (hV : ∀ w : Int, 0 ≤ w → w ≤ v → VR1 H w) (v0 : 0 ≤ v) (e : ∀ a k : Int, (27 ≤ a ∧ a ≤ 30) ∨ a = 32 ∨ (128 ≤ a ∧ a ≤ 131) → 0 ≤ k → k ≤ v → K a k = H a k) (e31 : ∀ w i : Int, 0 ≤ w → w ≤ v → 0 ≤ i → i < H 30 w → K 31 (4 * w + i) = H 31 (4 * w + i) ∧ K 132 (4 * w + i) = H 132 (4 * w + i)) (hk : KS H K) : VR1 K v := by
  obtain ⟨a1, a2, a3, a4, a5, a6, a7⟩ := hV v v0 (Int.le_refl _)
  obtain ⟨e8, e12, e43, e45, hu, h4⟩ := hk
  have hf : vFl K v (H 32 v) := vFl_eq (fun a k ha => e a k (by omega)) (fun w j w0 w1 j0 j1 => ⟨(e31 w j w0 w1 j0 j1).1, by
    have := VR1_pt (hV w w0 w1) j0 j1
    omega⟩) (fun i i0 i1 => VR1_30 (hV i i0 i1) (hV v v0 (Int.le_refl _))) a7
  unfold VR1
  rw [e 27 v (by decide) v0 (Int.le_refl _), e 28 v (by decide) v0 (Int.le_refl _), e 29 v (by decide) v0 (Int.le_refl _), e 30 v (by decide) v0 (Int.le_refl _), e 32 v (by decide) v0 (Int.le_refl _), e 128 v (by decide) v0 (Int.le_refl _), e 129 v (by decide) v0 (Int.le_refl _), e 130 v (by decide) v0 (Int.le_refl _), e 131 v (by decide) v0 (Int.le_refl _)]
  refine ⟨a1, a2, a3, a4, fun z => ?_, a6, hf⟩
  obtain ⟨b1, b2, b3, b4, b5⟩ := a5 z
  refine ⟨⟨b1.1, by omega⟩, b2, b3, by rw [e12 _ b1.1 b1.2]; exact b4, fun i i0 i1 => ?_⟩
  obtain ⟨c1, c2⟩ := b5 i i0 i1
  have h12 := h4 _ b1.1 b1.2
  have e3 := e31 v i v0 (Int.le_refl _) i0 i1
  rw [e3.1, e3.2]
  refine ⟨c1, ?_⟩
  rw [e 27 _ (by decide) c1.2.1 (by omega), e 28 _ (by decide) c1.2.1 (by omega), e45 _ (by omega) (by omega), sOf_eq (m := (H 8 0).toNat) hu (fun k hk => e43 k (by omega)) (fun y => by have := ((hV _ c1.2.1 (by omega)).2.2.2.2.1 y).1; omega)]
  exact c2
theorem VR_lf {H : e3_H} (h : VR H) : ∀ w : Int, 0 ≤ w → w < H 26 1 → H 27 w = 4 → 0 ≤ H 28 w ∧ H 28 w < H 8 0 := fun w w0 w1 w4 => ((h.2 w w0 w1).2.2.2.2.1 w4).1
theorem VR_eq {H K : e3_H} (h : VR H) (e : ∀ a k : Int, (26 ≤ a ∧ a ≤ 32) ∨ (128 ≤ a ∧ a ≤ 132) → K a k = H a k) (e9 : K 40 109 = H 40 109) (hk : KS H K) : VR K := by
  refine ⟨by rw [e 26 1 (by decide), e9]; exact h.1, fun v v0 v1 => ?_⟩
  rw [e 26 1 (by decide)] at v1
  exact VR1_eq (fun w w0 w1 => h.2 w w0 (by omega)) v0 (fun a k ha _ _ => e a k (by omega)) (fun w i _ _ _ _ => ⟨e 31 _ (by decide), e 132 _ (by decide)⟩) hk
theorem KS_eq {n : Nat} {H K : e3_H} {G : e3_G} (h : JI n H G) (e : ∀ a k : Int, a = 8 ∨ a = 12 ∨ a = 43 ∨ a = 45 → K a k = H a k) : KS H K := by
  obtain ⟨σ, m, hd, hk, ht, h10⟩ := JI_kd h
  have h8 := hd.1
  have e43 : H 43 = σ 43 := funext fun k => ht 43 k (by decide) (by decide)
  refine ⟨by rw [e 8 0 (by decide)]; exact Int.le_refl _, fun k _ _ => e 12 k (by decide), fun k _ => e 43 k (by decide), fun k _ _ => e 45 k (by decide), by rw [e43, h8]; exact hk.2.2.2.1, fun k k0 k1 => ?_⟩
  have c := (hd.2 k.toNat (by omega)).2.2.1
  have d := (hk.2.2.2.2 k.toNat (by omega)).2.1
  rw [show ((k.toNat : Nat) : Int) = k by omega] at c d
  omega
theorem E1_eq {n : Nat} {H K : e3_H} {G : e3_G} (hJ : JI n H G) (h : E1 H) (e : ∀ a k : Int, a = 8 ∨ a = 12 ∨ a = 43 ∨ a = 45 ∨ (26 ≤ a ∧ a ≤ 32) ∨ (128 ≤ a ∧ a ≤ 132) → K a k = H a k) (e27 : K 2 7 = H 2 7) (e11 : K 40 11 = H 40 11) (e9 : K 40 109 = H 40 109) : E1 K := by
  refine ⟨VR_eq h.1 (fun a k ha => e a k (by omega)) e9 (KS_eq hJ (fun a k ha => e a k (by omega))), ?_⟩
  unfold LT
  rw [e11, e27, e 8 0 (by decide)]
  exact h.2
/-- what the making of a VALUE leaves -/
def FRv (H K : e3_H) : Prop := ∀ a k : Int, ¬ (26 ≤ a ∧ a ≤ 33) → ¬ (128 ≤ a ∧ a ≤ 132) → ¬ (a = 40 ∧ k = 109) → K a k = H a k
/-- what a new VALUE must be -/
def NV (H : e3_H) (p : Int → Int) (l1 l2 l4 l5 r2 r3 : Int) : Prop := (0 ≤ l1 ∧ l1 ≤ 4) ∧ 1 ≤ l4 ∧ (l1 ≤ 1 → l2 = r2 ∧ r3 = 0 ∧ e3_i32 l2) ∧ (l1 = 2 → l2 = r3 ∧ (tS (tB l2) 8).1 = 1 ∧ r2 = (tS (tB l2) 8).2 ∧ e3_i64 l2) ∧ (l1 = 3 → l2 = -1 ∧ r2 = -4 ∧ r3 = 0) ∧ (l1 = 4 → (0 ≤ l2 ∧ l2 < H 8 0) ∧ l2 = r2 ∧ r3 = 0 ∧ l5 = H 12 l2 ∧ ∀ i : Int, 0 ≤ i → i < l5 → sOf H (H 27 (p i)) (H 28 (p i)) (H 45 (4 * l2 + i)) = true) ∧ (l1 ≠ 4 → l5 = 0 ∧ l4 = 1)
theorem VR_put {n : Nat} {H K1 K : e3_H} {G : e3_G} {l1 l2 l4 l5 r2 r3 x y : Int} {p q : Int → Int} (hJ : JI n H G) (hV : VR H) (hl : zLX H) (hv : vO l1 l2 l4 l5 p H x K1) (hm : mO l1 r2 r3 l4 l5 q K1 y K) (hN : NV H p l1 l2 l4 l5 r2 r3) (hp : ∀ i : Int, 0 ≤ i → i < l5 → p i = q i ∧ 0 ≤ p i ∧ p i < H 26 1) : x = y ∧ VR K ∧ FRv H K := by
  obtain ⟨hv1, hv2⟩ := id hV
  have h160 := hl.1
  rcases hv with ⟨a1, a2, a3⟩ | ⟨a1, a2, tw, ⟨b1, b2, b3, b4, b5, b6⟩, hfl⟩
  · rcases hm with ⟨c1, c2, c3⟩ | ⟨c1, c2, _⟩
    · rw [c3]
      exact ⟨by omega, VR_eq hV (fun a k ha => a3 a k (by omega)) (a3 40 109 (by decide)) (KS_eq hJ (fun a k ha => a3 a k (by omega))), fun a k h1 _ _ => a3 a k (by omega)⟩
    · rw [a3 40 109 (by decide)] at c2
      exact absurd ⟨by omega, by omega⟩ a2
  · have e109 : K1 40 109 = H 40 109 := b1 40 109 (by decide)
    rcases hm with ⟨c1, c2, c3⟩ | ⟨c1, c2, d1, d2, ⟨d3, d4, d5, d6⟩, d7⟩
    · rw [e109] at c2
      exact absurd ⟨by omega, by omega⟩ c2
    · rw [e109] at c1 c2 d1 d2 d3 d4 d5 d6 d7
      rw [← hv1] at c1 c2 d1 d2 d3 d4 d5 d6 d7
      have eC : ∀ a k : Int, a < 128 → a ≠ 40 → K a k = K1 a k := fun a k h1 h2 => d2 a k (fun z => h2 z.1) (by omega) (by omega)
      have eM : ∀ a k : Int, 128 ≤ a → a ≤ 131 → k ≠ H 26 1 → K a k = H a k := fun a k h1 h2 h3 => by
        rw [d2 a k (by omega) (fun z => h3 z.2.2) (by omega)]
        exact b1 a k (by omega)
      have e8 : K 8 0 = H 8 0 := by rw [eC 8 0 (by decide) (by decide)]; exact b1 8 0 (by decide)
      have e12 : ∀ k : Int, K 12 k = H 12 k := fun k => by rw [eC 12 k (by decide) (by decide)]; exact b1 12 k (by decide)
      have e43 : ∀ k : Int, K 43 k = H 43 k := fun k => by rw [eC 43 k (by decide) (by decide)]; exact b1 43 k (by decide)
      have old : ∀ v : Int, 0 ≤ v → v < H 26 1 → VR1 K v := fun v v0 hlt => by
        refine VR1_eq (fun w w0 w1 => hv2 w w0 (by omega)) v0 (fun a k ha k0 hk => ?_) (fun w i w0 w1 i0 i1 => ?_) (KS_eq hJ (fun a k ha => by rw [eC a k (by omega) (by omega)]; exact b1 a k (by omega)))
        · rcases ha with ha | ha | ha
          · rw [eC a k (by omega) (by omega)]
            exact b3 a k (by omega) (by omega) (by omega) (by omega)
          · rw [eC a k (by omega) (by omega)]
            exact b3 a k (by omega) (by omega) (by omega) (by omega)
          · exact eM a k ha.1 ha.2 (by omega)
        · have h30 := hl.2.2 w w0 (by omega)
          refine ⟨?_, ?_⟩
          · rw [eC 31 _ (by decide) (by decide)]
            exact b5 _ (by omega)
          · rw [d2 132 _ (by omega) (by omega) (by omega)]
            exact b1 132 _ (by decide)
      refine ⟨by omega, ⟨by rw [eC 26 1 (by decide) (by decide), b2.1, d1], fun v v0 v1 => ?_⟩, fun a k h1 h2 h3 => ?_⟩
      · rw [eC 26 1 (by decide) (by decide), b2.1] at v1
        by_cases z : v = H 26 1
        case neg => exact old v v0 (by omega)
        obtain ⟨n1, n2, n3, n4, n5, n6, n7⟩ := hN
        have h5 : ∀ i : Int, 0 ≤ i → i < l5 → K 31 (4 * H 26 1 + i) = p i := fun i i0 i1 => by rw [eC 31 _ (by decide) (by decide)]; exact b6 i i0 i1
        have k30 : K 30 (H 26 1) = l5 := by rw [eC 30 _ (by decide) (by decide)]; exact b4.2.2.2.1
        have k27 : K 27 (H 26 1) = l1 := by rw [eC 27 _ (by decide) (by decide)]; exact b4.1
        have k28 : K 28 (H 26 1) = l2 := by rw [eC 28 _ (by decide) (by decide)]; exact b4.2.1
        have k32 : K 32 (H 26 1) = tw := by rw [eC 32 _ (by decide) (by decide)]; exact b4.2.2.2.2
        have u : ∀ a k : Int, a ≠ 32 → e3_up K1 32 (H 26 1) (H 32 (H 26 1)) a k = K1 a k := fun a k h => e3_up_ne (ne_1 h)
        have kf : vFl K (H 26 1) tw := by
          refine vFl_eq (H := e3_up K1 32 (H 26 1) (H 32 (H 26 1))) (K := K) (fun a k ha k0 k1 => ?_) (fun w j w0 w1 j0 j1 => ?_) (fun i i0 i1 c1 c2 => ?_) hfl
          · rw [eC a k (by omega) (by omega)]
            exact (e3_up_ne (fun z => by omega)).symm
          · rw [u 30 w (by decide)] at j1
            rw [u 31 _ (by decide), eC 31 _ (by decide) (by decide)]
            refine ⟨rfl, ?_⟩
            by_cases y : w = H 26 1
            · rw [y] at j1 ⊢
              rw [b4.2.2.2.1] at j1
              rw [b6 j j0 j1]
              have := hp j j0 j1
              omega
            · rw [b3 30 w (by decide) (by decide) (by decide) y] at j1
              have h30 := hl.2.2 w w0 (by omega)
              rw [b5 _ (by omega)]
              have := VR1_pt (hv2 w w0 (by omega)) j0 j1
              omega
          · rw [u 27 i (by decide), u 27 _ (by decide)] at c1
            rw [u 28 i (by decide), u 28 _ (by decide)] at c2
            rw [u 30 i (by decide), u 30 _ (by decide)]
            by_cases y : i = H 26 1
            · rw [y]
            · rw [b3 27 i (by decide) (by decide) (by decide) y, b4.1] at c1
              rw [b3 28 i (by decide) (by decide) (by decide) y, b4.2.1] at c2
              rw [b3 30 i (by decide) (by decide) (by decide) y, b4.2.2.2.1]
              have hv := hv2 i i0 (by omega)
              by_cases y4 : l1 = 4
              · rw [(hv.2.2.2.2.1 (by omega)).2.2.2.1, c2]
                exact (n6 y4).2.2.2.1.symm
              · rw [(hv.2.2.2.2.2.1 (by omega)).1]
                exact (n7 y4).1.symm
        unfold VR1
        rw [z, k27, k28, k30, k32, eC 29 _ (by decide) (by decide), b4.2.2.1, d3, d4, d5, d6, e8]
        refine ⟨⟨rfl, rfl, n1, n2, a2.2⟩, n3, n4, n5, fun w => ?_, n7, kf⟩
        obtain ⟨m1, m2, m3, m4, m5⟩ := n6 w
        refine ⟨m1, m2, m3, by rw [e12]; exact m4, fun i i0 i1 => ?_⟩
        have hpi := hp i i0 i1
        rw [h5 i i0 i1, d7 i i0 i1]
        refine ⟨by omega, ?_⟩
        have e27 : K 27 (p i) = H 27 (p i) := by rw [eC 27 _ (by decide) (by decide)]; exact b3 27 _ (by omega) (by omega) (by omega) (by omega)
        have e28 : K 28 (p i) = H 28 (p i) := by rw [eC 28 _ (by decide) (by decide)]; exact b3 28 _ (by omega) (by omega) (by omega) (by omega)
        have e45 : K 45 (4 * l2 + i) = H 45 (4 * l2 + i) := by rw [eC 45 _ (by decide) (by decide)]; exact b1 45 _ (by decide)
        rw [e27, e28, e45]
        unfold sOf
        rw [show K 43 = H 43 from funext e43]
        exact m5 i i0 i1
      · by_cases z : a < 128
        · by_cases w : a = 40
          · rw [w, d2 40 k (fun y => h3 ⟨w, y.2⟩) (by omega) (by omega)]
            exact b1 40 k (by decide)
          · rw [eC a k z w]
            exact b1 a k (by omega)
        · rw [d2 a k (by omega) (by omega) (by omega)]
          exact b1 a k (by omega)
