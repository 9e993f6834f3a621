/-- which VALUES of the class are alike at one level -/
def vlk (K : e3_H) (i v : Int) : Prop := K 27 i = K 27 v ∧ K 28 i = K 28 v ∧ ∀ j : Int, 0 ≤ j → j < K 30 i → K 32 (K 31 (4 * i + j)) = K 32 (K 31 (4 * v + j))
/-- a VALUE is put, in the class -/
def vPt (l1 l2 l4 l5 : Int) (p : Int → Int) (tw : Int) (H K : e3_H) : Prop := (∀ a k : Int, a < 26 ∨ 33 < a → K a k = H a k) ∧ (K 26 1 = H 26 1 + 1 ∧ ∀ k : Int, k ≠ 1 → K 26 k = H 26 k) ∧ (∀ a k : Int, 27 ≤ a → a ≤ 32 → a ≠ 31 → k ≠ H 26 1 → K a k = H a k) ∧ (K 27 (H 26 1) = l1 ∧ K 28 (H 26 1) = l2 ∧ K 29 (H 26 1) = l4 ∧ K 30 (H 26 1) = l5 ∧ K 32 (H 26 1) = tw) ∧ (∀ k : Int, ¬ (4 * H 26 1 ≤ k ∧ k < 4 * H 26 1 + l5) → K 31 k = H 31 k) ∧ ∀ i : Int, 0 ≤ i → i < l5 → K 31 (4 * H 26 1 + i) = p i
/-- the first VALUE that one is alike to -/
def vFl (K : e3_H) (v tw : Int) : Prop := (0 ≤ tw ∧ tw ≤ v) ∧ (tw = v ∨ vlk K tw v) ∧ ∀ i : Int, 0 ≤ i → i < tw → ¬ vlk K i v
section VCL
variable {Q : Int → e3_H → e3_G → Prop} {H : e3_H} {G : e3_G}
theorem vL_like (h : zLX H) (l1 l2 : Int) (h1 : 0 ≤ l1 ∧ l1 < 160) (h2 : 0 ≤ l2 ∧ l2 < 160) (hy : (∀ j : Int, 0 ≤ j → j < H 30 l1 → H 32 (H 31 (4 * l1 + j)) = H 32 (H 31 (4 * l2 + j))) → Q 1 H G) (hn : ¬ (∀ j : Int, 0 ≤ j → j < H 30 l1 → H 32 (H 31 (4 * l1 + j)) = H 32 (H 31 (4 * l2 + j))) → Q 0 H G) : wL_haveLikeParts Q l1 l2 H G := by
  have h30 := h.2.2 l1 h1.1 h1.2
  have key : ∀ (n : Nat) (l3 : Int), 0 ≤ l3 → l3 + n = H 30 l1 → (∀ j : Int, 0 ≤ j → j < l3 → H 32 (H 31 (4 * l1 + j)) = H 32 (H 31 (4 * l2 + j))) → wL_haveLikeParts_2 Q (n + 1) l1 l2 l3 H G := by
    intro n
    induction n with
    | zero =>
      intro l3 h0 hn2 hs
      exact ⟨h1, brF (by omega) (hy (fun j j0 j1 => hs j j0 (by omega)))⟩
    | succ n ih =>
      intro l3 h0 hn2 hs
      have e1 : e3_w32 (e3_w32 (l1 * 4) + l3) = 4 * l1 + l3 := by rw [e3_w32_id (x := l1 * 4) (by omega) (by omega), e3_w32_id (by omega) (by omega)]; omega
      have e2 : e3_w32 (e3_w32 (l2 * 4) + l3) = 4 * l2 + l3 := by rw [e3_w32_id (x := l2 * 4) (by omega) (by omega), e3_w32_id (by omega) (by omega)]; omega
      refine ⟨h1, brT (by omega) ?_⟩
      rw [e1, e2]
      refine ⟨by omega, h.2.1 _ (by omega) (by omega), by omega, h.2.1 _ (by omega) (by omega), ?_⟩
      by_cases c : H 32 (H 31 (4 * l1 + l3)) = H 32 (H 31 (4 * l2 + l3))
      · refine brT c ?_
        rw [e3_w32_id (by omega) (by omega)]
        refine ih (l3 + 1) (by omega) (by omega) (fun j j0 j1 => ?_)
        by_cases z : j = l3
        · rw [z]; exact c
        · exact hs j j0 (by omega)
      · exact brF c (hn (fun z => c (z l3 h0 (by omega))))
  exact ⟨(H 30 l1).toNat + 1, key (H 30 l1).toNat 0 (by omega) (by omega) (fun j j0 j1 => by omega)⟩
theorem vL_firstLike (h : zLX H) (l1 : Int) (h1 : 0 ≤ l1 ∧ l1 < 160) (hQ : ∀ x, vFl H l1 x → Q x H G) : wL_firstLike Q l1 H G := by
  have key : ∀ (n : Nat) (l2 : Int), 0 ≤ l2 → l2 + n = l1 → (∀ i : Int, 0 ≤ i → i < l2 → ¬ vlk H i l1) → wL_firstLike_2 Q (n + 1) l1 l2 H G := by
    intro n
    induction n with
    | zero =>
      intro l2 h0 hn hs
      exact brF (by omega) (hQ _ ⟨by omega, Or.inl rfl, fun i i0 i1 => hs i i0 (by omega)⟩)
    | succ n ih =>
      intro l2 h0 hn hs
      have nx : ¬ vlk H l2 l1 → wL_firstLike_49 Q (fun l1 l2 H G => wL_firstLike_2 Q (n + 1) l1 l2 H G) l1 l2 H G := fun hno => by
        show wL_firstLike_2 Q (n + 1) l1 (e3_w32 (l2 + 1)) H G
        rw [e3_w32_id (by omega) (by omega)]
        refine ih (l2 + 1) (by omega) (by omega) (fun i i0 i1 => ?_)
        by_cases z : i = l2
        · rw [z]; exact hno
        · exact hs i i0 (by omega)
      refine brT (by omega) ⟨by omega, h1, ?_⟩
      by_cases a : H 27 l2 = H 27 l1
      · refine brT a ⟨by omega, h1, ?_⟩
        by_cases b : H 28 l2 = H 28 l1
        · exact brT b (vL_like h l2 l1 (by omega) h1 (fun hy => brF (by decide) (hQ _ ⟨by omega, Or.inr ⟨a, b, hy⟩, hs⟩)) (fun hn => brT rfl (nx (fun z => hn z.2.2))))
        · exact brF b (nx (fun z => b z.2.1))
      · exact brF a (nx (fun z => a z.1))
  exact ⟨l1.toNat + 1, key l1.toNat 0 (by omega) (by omega) (fun i i0 i1 => by omega)⟩
theorem vL_putSized (hG : zGC G) (h : zLX H) (l1 l2 l4 l5 : Int) (h5 : 0 ≤ l5 ∧ l5 ≤ 4) (hp : ∀ k : Int, 0 ≤ k → k < l5 → 0 ≤ H 33 k ∧ H 33 k < 160) (hfull : ¬ (H 26 1 < 160 ∧ l4 ≤ 60) → Q (-3) H G) (hok : H 26 1 < 160 → l4 ≤ 60 → ∀ (tw : Int) (K : e3_H), vPt l1 l2 l4 l5 (H 33) tw H K → vFl (e3_up K 32 (H 26 1) (H 32 (H 26 1))) (H 26 1) tw → zLX K → Q (H 26 1) K G) : wL_putSized Q l1 l2 l4 l5 H G := by
  have h26 := h.1
  by_cases a : H 26 1 < 160
  case neg => exact brF a (hfull (fun z => a z.1))
  refine brT a ?_
  by_cases b : 60 < l4
  · exact brT b (hfull (fun z => by omega))
  have hok := hok a (by omega)
  refine brF b ⟨by omega, fun H1 e1 => ⟨by omega, fun H3 e3 => ⟨by omega, fun H5 e5 => ⟨by omega, fun H7 e7 => ?_⟩⟩⟩⟩
  have at7 : ∀ x k : Int, x < 27 ∨ 30 < x → H7 x k = H x k := fun x k hx => by
    rw [e7, e3_up_ne (ne_1 (by omega)), e5, e3_up_ne (ne_1 (by omega)), e3, e3_up_ne (ne_1 (by omega)), e1, e3_up_ne (ne_1 (by omega))]
  have ot7 : ∀ x k : Int, k ≠ H 26 1 → H7 x k = H x k := fun x k hk => by
    rw [e7, e3_up_ne (ne_2 hk), e5, e3_up_ne (ne_2 hk), e3, e3_up_ne (ne_2 hk), e1, e3_up_ne (ne_2 hk)]
  have v7 : H7 27 (H 26 1) = l1 ∧ H7 28 (H 26 1) = l2 ∧ H7 29 (H 26 1) = l4 ∧ H7 30 (H 26 1) = l5 := by
    refine ⟨?_, ?_, ?_, ?_⟩
    · rw [e7, e3_up_ne (ne_1 (by decide)), e5, e3_up_ne (ne_1 (by decide)), e3, e3_up_ne (ne_1 (by decide)), e1]; exact e3_up_self ..
    · rw [e7, e3_up_ne (ne_1 (by decide)), e5, e3_up_ne (ne_1 (by decide)), e3]; exact e3_up_self ..
    · rw [e7, e3_up_ne (ne_1 (by decide)), e5]; exact e3_up_self ..
    · rw [e7]; exact e3_up_self ..
  clear e1 e3 e5 e7
  rw [e3_w32_id (x := H 26 1 * 4) (by omega) (by omega)]
  refine ⟨⟨by decide, by decide, by decide, by omega, h5.1, 640, 4, hG.1.2, hG.2.1.2, by omega, by omega⟩, fun H9 e9 => ?_⟩
  have at9 : ∀ x k : Int, x ≠ 31 → H9 x k = H7 x k := fun x k hx => by
    rw [e9]
    show (if x = 31 ∧ _ ∧ _ then _ else _) = _
    rw [if_neg (fun z => hx z.1)]
  have in9 : ∀ i : Int, 0 ≤ i → i < l5 → H9 31 (4 * H 26 1 + i) = H 33 i := fun i i0 i1 => by
    rw [e9]
    show (if (31 : Int) = 31 ∧ H 26 1 * 4 ≤ 4 * H 26 1 + i ∧ 4 * H 26 1 + i < H 26 1 * 4 + l5 then H7 33 (0 + (4 * H 26 1 + i - H 26 1 * 4)) else H7 31 (4 * H 26 1 + i)) = _
    rw [if_pos ⟨rfl, by omega, by omega⟩, at7 33 _ (by decide), show 0 + (4 * H 26 1 + i - H 26 1 * 4) = i by omega]
  have ou9 : ∀ k : Int, ¬ (4 * H 26 1 ≤ k ∧ k < 4 * H 26 1 + l5) → H9 31 k = H 31 k := fun k hk => by
    rw [e9]
    show (if (31 : Int) = 31 ∧ H 26 1 * 4 ≤ k ∧ k < H 26 1 * 4 + l5 then H7 33 (0 + (k - H 26 1 * 4)) else H7 31 k) = _
    rw [if_neg (fun z => hk ⟨by omega, by omega⟩), at7 31 k (by decide)]
  clear e9
  have l9 : zLX H9 := by
    refine ⟨by rw [at9 26 1 (by decide), at7 26 1 (by decide)]; exact h26, fun i i0 i1 => ?_, fun i i0 i1 => ?_⟩
    · by_cases z : 4 * H 26 1 ≤ i ∧ i < 4 * H 26 1 + l5
      · have := in9 (i - 4 * H 26 1) (by omega) (by omega)
        rw [show 4 * H 26 1 + (i - 4 * H 26 1) = i by omega] at this
        rw [this]
        exact hp _ (by omega) (by omega)
      · rw [ou9 i z]; exact h.2.1 i i0 i1
    · rw [at9 30 i (by decide)]
      by_cases z : i = H 26 1
      · rw [z, v7.2.2.2]; exact h5
      · rw [ot7 30 i z]; exact h.2.2 i i0 i1
  have q26 : H9 26 1 = H 26 1 := by rw [at9 26 1 (by decide), at7 26 1 (by decide)]
  refine vL_firstLike l9 (H 26 1) (by omega) (fun x hx => ⟨by omega, fun H13 e13 H15 e15 => ?_⟩)
  have f15 : ∀ x k : Int, ¬ (x = 32 ∧ k = H 26 1) → ¬ (x = 26 ∧ k = 1) → H15 x k = H9 x k := fun x k z1 z2 => by rw [e15, e3_up_ne z2, e13, e3_up_ne z1]
  have g15 : H15 26 1 = H 26 1 + 1 := by
    rw [e15, e3_up_self, e13, e3_up_ne (ne_1 (by decide)), q26, e3_w32_id (by omega) (by omega)]
  have t15 : H15 32 (H 26 1) = x := by rw [e15, e3_up_ne (ne_1 (by decide)), e13]; exact e3_up_self ..
  clear e13 e15
  have eK : ∀ a k : Int, 27 ≤ a → a ≤ 32 → e3_up H15 32 (H 26 1) (H 32 (H 26 1)) a k = H9 a k := fun a k a1 a2 => by
    by_cases z : a = 32 ∧ k = H 26 1
    · obtain ⟨rfl, rfl⟩ := z
      rw [e3_up_self, at9 32 _ (by decide), at7 32 _ (by decide)]
    · rw [e3_up_ne z]; exact f15 a k z (by omega)
  have lk : ∀ i v : Int, vlk (e3_up H15 32 (H 26 1) (H 32 (H 26 1))) i v ↔ vlk H9 i v := fun i v => by
    unfold vlk
    rw [eK 27 i (by decide) (by decide), eK 27 v (by decide) (by decide), eK 28 i (by decide) (by decide), eK 28 v (by decide) (by decide), eK 30 i (by decide) (by decide)]
    constructor
    · rintro ⟨a1, a2, a3⟩
      refine ⟨a1, a2, fun j j0 j1 => ?_⟩
      have := a3 j j0 j1
      rw [eK 32 _ (by decide) (by decide), eK 32 _ (by decide) (by decide), eK 31 _ (by decide) (by decide), eK 31 _ (by decide) (by decide)] at this
      exact this
    · rintro ⟨a1, a2, a3⟩
      refine ⟨a1, a2, fun j j0 j1 => ?_⟩
      rw [eK 32 _ (by decide) (by decide), eK 32 _ (by decide) (by decide), eK 31 _ (by decide) (by decide), eK 31 _ (by decide) (by decide)]
      exact a3 j j0 j1
  refine hok x H15 ⟨fun y k hy => ?_, ⟨g15, fun k hk => ?_⟩, fun y k y1 y2 y3 hk => ?_, ⟨?_, ?_, ?_, ?_, t15⟩, fun k hk => ?_, fun i i0 i1 => ?_⟩ ⟨hx.1, hx.2.1.imp id (fun z => (lk _ _).mpr z), fun i i0 i1 z => hx.2.2 i i0 i1 ((lk _ _).mp z)⟩ ⟨?_, fun i i0 i1 => ?_, fun i i0 i1 => ?_⟩
  · rw [f15 y k (by omega) (by omega), at9 y k (by omega), at7 y k (by omega)]
  · rw [f15 26 k (by omega) (by omega), at9 26 k (by decide), at7 26 k (by decide)]
  · rw [f15 y k (by omega) (by omega), at9 y k y3, ot7 y k hk]
  · rw [f15 27 _ (by omega) (by omega), at9 27 _ (by decide)]; exact v7.1
  · rw [f15 28 _ (by omega) (by omega), at9 28 _ (by decide)]; exact v7.2.1
  · rw [f15 29 _ (by omega) (by omega), at9 29 _ (by decide)]; exact v7.2.2.1
  · rw [f15 30 _ (by omega) (by omega), at9 30 _ (by decide)]; exact v7.2.2.2
  · rw [f15 31 k (by omega) (by omega)]; exact ou9 k hk
  · rw [f15 31 _ (by omega) (by omega)]; exact in9 i i0 i1
  · rw [g15]; omega
  · rw [f15 31 i (by omega) (by omega)]; exact l9.2.1 i i0 i1
  · rw [f15 30 i (by omega) (by omega)]; exact l9.2.2 i i0 i1
end VCL
