/-- nothing changes but between two addresses -/
def zF (lo hi : Int) (H K : e3_H) : Prop := ∀ a k : Int, a < lo ∨ hi < a → K a k = H a k
theorem zF_rf {lo hi : Int} (H : e3_H) : zF lo hi H H := fun _ _ _ => rfl
theorem zF_tr {lo hi : Int} {H K K2 : e3_H} (h : zF lo hi H K) (h2 : zF lo hi K K2) : zF lo hi H K2 := fun a k ha => (h2 a k ha).trans (h a k ha)
theorem zF_up {lo hi : Int} {H K : e3_H} {a k v : Int} (h : zF lo hi H K) (ha : lo ≤ a ∧ a ≤ hi) : zF lo hi H (e3_up K a k v) := fun b j hb => by
  rw [e3_up_ne (ne_1 (by omega))]
  exact h b j hb
theorem zKX_eq {H K : e3_H} (h : zKX H) (e : ∀ a k : Int, 8 ≤ a → a ≤ 13 → K a k = H a k) : zKX K := by
  unfold zKX
  rw [e 8 0 (by decide) (by decide)]
  exact ⟨h.1, fun k h0 h1 => by rw [e 12 k (by decide) (by decide)]; exact h.2 k h0 h1⟩
theorem zLX_eq {H K : e3_H} (h : zLX H) (e : ∀ a k : Int, 26 ≤ a → a ≤ 33 → K a k = H a k) : zLX K := by
  unfold zLX
  rw [e 26 1 (by decide) (by decide)]
  exact ⟨h.1, fun i h0 h1 => by rw [e 31 i (by decide) (by decide)]; exact h.2.1 i h0 h1, fun i h0 h1 => by rw [e 30 i (by decide) (by decide)]; exact h.2.2 i h0 h1⟩
section CLU
variable {Q : Int → e3_H → e3_G → Prop} {H : e3_H} {G : e3_G}
theorem zL_putSized (hG : zGC G) (h : zLX H) (l1 l2 l4 l5 : Int) (h5 : 0 ≤ l5 ∧ l5 ≤ 4) (hp : ∀ k : Int, 0 ≤ k → k < l5 → 0 ≤ H 33 k ∧ H 33 k < 160) (hQ : ∀ x K, zF 26 33 H K → zLX K → Q x K G) : wL_putSized Q l1 l2 l4 l5 H G := by
  have h26 := h.1
  by_cases a : H 26 1 < 160
  case neg => exact brF a (hQ _ H (zF_rf H) h)
  refine brT a ?_
  by_cases b : 60 < l4
  · exact brT b (hQ _ H (zF_rf H) h)
  refine brF b ⟨by omega, fun H1 e1 => ⟨by omega, fun H3 e3 => ⟨by omega, fun H5 e5 => ⟨by omega, fun H7 e7 => ?_⟩⟩⟩⟩
  have at7 : ∀ x k : Int, x < 27 ∨ 30 < x → H7 x k = H x k := fun x k hx => by
    rw [e7, e3_up_ne (ne_1 (by omega)), e5, e3_up_ne (ne_1 (by omega)), e3, e3_up_ne (ne_1 (by omega)), e1, e3_up_ne (ne_1 (by omega))]
  have f7 : zF 26 33 H H7 := fun x k hx => at7 x k (by omega)
  rw [e3_w32_id (x := H 26 1 * 4) (by omega) (by omega)]
  refine ⟨⟨by decide, by decide, by decide, by omega, h5.1, 640, 4, hG.1.2, hG.2.1.2, by omega, by omega⟩, fun H9 e9 => ?_⟩
  have at9 : ∀ x k : Int, x ≠ 31 → H9 x k = H7 x k := fun x k hx => by
    rw [e9]
    show (if x = 31 ∧ _ ∧ _ then _ else _) = _
    rw [if_neg (fun z => hx z.1)]
  have f9 : zF 26 33 H H9 := fun x k hx => by rw [at9 x k (by omega)]; exact f7 x k hx
  have l9 : zLX H9 := by
    refine ⟨by rw [at9 26 1 (by decide), at7 26 1 (by decide)]; exact h26, fun i i0 i1 => ?_, fun i i0 i1 => ?_⟩
    · rw [e9]
      show 0 ≤ (if (31 : Int) = 31 ∧ H 26 1 * 4 ≤ i ∧ i < H 26 1 * 4 + l5 then H7 33 (0 + (i - H 26 1 * 4)) else H7 31 i) ∧ (if (31 : Int) = 31 ∧ H 26 1 * 4 ≤ i ∧ i < H 26 1 * 4 + l5 then H7 33 (0 + (i - H 26 1 * 4)) else H7 31 i) < 160
      split
      · rename_i hc
        rw [at7 33 _ (by decide)]
        exact hp _ (by omega) (by omega)
      · rw [at7 31 i (by decide)]
        exact h.2.1 i i0 i1
    · rw [at9 30 i (by decide), e7]
      by_cases z : i = H 26 1
      · rw [z, e3_up_self]; exact h5
      · rw [e3_up_ne (ne_2 z), e5, e3_up_ne (ne_1 (by decide)), e3, e3_up_ne (ne_1 (by decide)), e1, e3_up_ne (ne_1 (by decide))]
        exact h.2.2 i i0 i1
  refine zL_firstLike l9 (H 26 1) (by omega) (fun x => ⟨by omega, fun H13 e13 H15 e15 => ?_⟩)
  have f15 : zF 26 33 H H15 := by rw [e15, e13]; exact zF_up (zF_up f9 (by decide)) (by decide)
  refine hQ _ H15 f15 ⟨?_, fun i i0 i1 => ?_, fun i i0 i1 => ?_⟩
  · rw [e15, e3_up_self, e13, e3_up_ne (ne_1 (by decide)), at9 26 1 (by decide), at7 26 1 (by decide), e3_w32_id (by omega) (by omega)]
    omega
  · rw [e15, e3_up_ne (ne_1 (by decide)), e13, e3_up_ne (ne_1 (by decide))]; exact l9.2.1 i i0 i1
  · rw [e15, e3_up_ne (ne_1 (by decide)), e13, e3_up_ne (ne_1 (by decide))]; exact l9.2.2 i i0 i1
theorem zL_put (hG : zGC G) (h : zLX H) (l1 l2 : Int) (hQ : ∀ x K, zF 26 33 H K → zLX K → Q x K G) : wL_put Q l1 l2 H G := zL_putSized hG h l1 l2 1 0 (by decide) (fun k k0 k1 => by omega) hQ
theorem zP_whole (hG : zGC G) (h : zLX H) (l1 : Int) (hQ : ∀ x K, zF 26 33 H K → zLX K → Q x K G) : wP_whole Q l1 H G := zL_put hG h _ _ hQ
theorem zP_nothing (hG : zGC G) (h : zLX H) (hQ : ∀ x K, zF 26 33 H K → zLX K → Q x K G) : wP_nothing Q H G := zL_put hG h _ _ hQ
theorem zP_truth (hG : zGC G) (h : zLX H) (l1 : Int) (hQ : ∀ x K, zF 26 33 H K → zLX K → Q x K G) : wP_truth Q l1 H G := by
  by_cases a : l1 = 0
  · exact brT a (zL_put hG h _ _ hQ)
  · exact brF a (zL_put hG h _ _ hQ)
theorem zL_isText (l0 : Int) (hQ : ∀ x, Q x H G) : wL_isText Q l0 H G := by
  have key : ∀ (n : Nat) (l2 l3 : Int), l3 = 8 * (n : Int) - 8 → n ≤ 8 → wL_isText_5 Q (n + 1) l0 l2 l3 H G := by
    intro n
    induction n with
    | zero => intro l2 l3 h3 _; exact brT (by omega) (hQ _)
    | succ n ih =>
      intro l2 l3 h3 hn
      have nx : ∀ s0 : Int, wL_isText_54 Q (fun l0 l2 l3 H G => wL_isText_5 Q (n + 1) l0 l2 l3 H G) l0 s0 l3 H G := fun s0 => by
        show wL_isText_5 Q (n + 1) l0 s0 (e3_w32 (l3 + (-8))) H G
        rw [e3_w32_id (by omega) (by omega)]
        exact ih s0 _ (by omega) (by omega)
      have n33 : ∀ l4 s0 : Int, wL_isText_33 Q (fun l0 l2 l3 H G => wL_isText_5 Q (n + 1) l0 l2 l3 H G) l0 l3 l4 s0 H G := fun l4 s0 => by
        by_cases a : s0 = 0
        · exact brT a (nx _)
        · refine brF a ?_
          by_cases b : l4 < 97
          · exact brT b (hQ _)
          · refine brF b ?_
            by_cases c : 122 < l4
            · exact brT c (hQ _)
            · exact brF c (nx _)
      refine brF (by omega) ?_
      by_cases a : l2 = 0
      · refine brT a ?_
        by_cases b : e3_w32 (e3_land (e3_lushr l0 l3) 255) = 0
        · exact brT b (n33 _ _)
        · exact brF b (n33 _ _)
      · exact brF a (n33 _ _)
  exact ⟨9, key 8 0 56 (by omega) (by omega)⟩
theorem zP_letters (hG : zGC G) (h : zLX H) (l1 : Int) (hQ : ∀ x K, zF 26 33 H K → zLX K → Q x K G) : wP_letters Q l1 H G := by
  refine zL_isText l1 (fun x => ?_)
  by_cases a : x = 0
  · exact brT a (hQ _ H (zF_rf H) h)
  · exact brF a (zL_put hG h _ _ hQ)
theorem zL_offerSuits (hk : zKX H) (h : zLX H) (l1 : Int) (h1 : (∀ k : Int, 0 ≤ k → k < 4 → (0 ≤ l1 ∧ l1 < H 8 0 ∧ k < H 12 l1) → 0 ≤ H 33 k ∧ H 33 k < H 26 1) → Q 1 H G) (h0 : Q 0 H G) : wL_offerSuits Q l1 H G := by
  have key : ∀ (n : Nat) (l2 : Int), 0 ≤ l2 → l2 + n = 4 → (∀ k : Int, 0 ≤ k → k < l2 → 0 ≤ H 33 k ∧ H 33 k < H 26 1) → wL_offerSuits_2 Q (n + 1) l1 l2 H G := by
    intro n
    induction n with
    | zero =>
      intro l2 g0 hn hs
      refine zK_partCount hk l1 (fun x hx _ => brF (by omega) (h1 (fun k k0 k1 _ => hs k k0 (by omega))))
    | succ n ih =>
      intro l2 g0 hn hs
      by_cases hr : 0 ≤ l1 ∧ l1 < H 8 0
      · have hkb := hk.1
        have hc := hk.2 l1 hr.1 hr.2
        refine brF (by omega) (brT hr.2 ⟨by omega, ?_⟩)
        show (l2 < H 12 l1 → _) ∧ (¬ l2 < H 12 l1 → _)
        by_cases a : l2 < H 12 l1
        · refine brT a ⟨by omega, zK_partSort hk l1 l2 (fun x7 => zL_isOf hk h _ _ (fun hv => brF (by decide) ?_) (brT rfl h0))⟩
          rw [e3_w32_id (by omega) (by omega)]
          refine ih (l2 + 1) (by omega) (by omega) (fun k k0 k1 => ?_)
          by_cases z : k = l2
          · rw [z]; exact hv
          · exact hs k k0 (by omega)
        · exact brF a (h1 (fun k k0 k1 hk3 => hs k k0 (by omega)))
      · refine zK_partCount hk l1 (fun x hx hx2 => brF (by have := hx.1; by_cases z : 0 < x; exact absurd (hx2 z) hr; omega) (h1 (fun k k0 k1 hk3 => absurd ⟨hk3.1, hk3.2.1⟩ hr)))
  exact ⟨5, key 4 0 (by omega) (by omega) (fun k k0 k1 => by omega)⟩
theorem zL_putLeaf (hG : zGC G) (hk : zKX H) (h : zLX H) (l1 : Int) (hl : 0 ≤ l1 ∧ l1 < H 8 0) (hs : ∀ k : Int, 0 ≤ k → k < 4 → k < H 12 l1 → 0 ≤ H 33 k ∧ H 33 k < H 26 1) (hQ : ∀ x K, zF 26 33 H K → zLX K → Q x K G) : wL_putLeaf Q l1 H G := by
  have h12 := hk.2 l1 hl.1 hl.2
  have h26 := h.1
  have key : ∀ (n : Nat) (l2 l4 : Int), 0 ≤ l4 → l4 + n = H 12 l1 → wL_putLeaf_14 Q (n + 1) l1 l2 (H 12 l1) l4 H G := by
    intro n
    induction n with
    | zero =>
      intro l2 l4 g0 hn
      refine brF (by omega) (zL_putSized hG h 4 l1 l2 _ h12 (fun k k0 k1 => ?_) hQ)
      have := hs k k0 (by omega) k1
      omega
    | succ n ih =>
      intro l2 l4 g0 hn
      have nx : ∀ s0 : Int, wL_putLeaf_51 Q (fun l1 l2 l3 l4 H G => wL_putLeaf_14 Q (n + 1) l1 l2 l3 l4 H G) l1 (H 12 l1) l4 s0 l2 H G := fun s0 => by
        show wL_putLeaf_14 Q (n + 1) l1 _ _ (e3_w32 (l4 + 1)) H G
        rw [e3_w32_id (x := l4 + 1) (by omega) (by omega)]
        exact ih _ (l4 + 1) (by omega) (by omega)
      refine brT (by omega) ⟨by omega, zL_has _ (fun hv => brF (by decide) ⟨by omega, by omega, nx _⟩) (brT rfl (nx _))⟩
  have hb := hk.1
  refine brF (by omega) (brT hl.2 ⟨by omega, (H 12 l1).toNat + 1, key (H 12 l1).toNat 1 0 (by omega) (by omega)⟩)
theorem zL_worth {l1 : Int} (h : 0 ≤ l1 ∧ l1 < 160) (hQ : ∀ x, Q x H G) : wL_worth Q l1 H G := by
  have z1 : ∀ (R : Int → e3_H → e3_G → Prop) (v : Int), (∀ x, R x H G) → wJ_numberOfLeadingZeros1 R v H G := fun R v hR => by
    have e73 : ∀ a b, wJ_numberOfLeadingZeros1_73 R a b H G := fun a b => hR _
    have e61 : ∀ a b, wJ_numberOfLeadingZeros1_61 R a b H G := fun a b => ⟨fun _ => e73 _ _, fun _ => e73 _ _⟩
    have e48 : ∀ a b, wJ_numberOfLeadingZeros1_48 R a b H G := fun a b => ⟨fun _ => e61 _ _, fun _ => e61 _ _⟩
    have e33 : ∀ a b, wJ_numberOfLeadingZeros1_33 R a b H G := fun a b => ⟨fun _ => e48 _ _, fun _ => e48 _ _⟩
    exact ⟨fun _ => ⟨fun _ => e33 _ _, fun _ => e33 _ _⟩, fun _ => ⟨fun _ => hR _, fun _ => hR _⟩⟩
  refine ⟨h, fun _ => ⟨h, ?_⟩, fun _ => hQ _, fun _ => ⟨h, hQ _⟩⟩
  exact ⟨fun _ => z1 _ _ (fun x => ⟨by decide, hQ _⟩), fun _ => z1 _ _ (fun x => ⟨by decide, hQ _⟩)⟩
theorem zP_value (h : zLX H) (l1 l2 : Int) (hQ : ∀ x, Q x H G) : wP_value Q l1 l2 H G := by
  have h26 := h.1
  refine zL_has l1 (fun hv => brF (by decide) ?_) (brT rfl (hQ _))
  refine ⟨fun _ => ⟨by omega, hQ _⟩, fun _ => zL_worth (by omega) (fun x => hQ _), fun _ => ⟨by omega, hQ _⟩, fun _ => ⟨fun _ => hQ _, fun _ => zL_part h _ _ (fun x => hQ _)⟩⟩
theorem zP_alike (h : zLX H) (l1 l2 : Int) (hQ : ∀ x, Q x H G) : wP_alike Q l1 l2 H G := by
  have h26 := h.1
  refine zL_has l1 (fun hv => brF (by decide) (zL_has l2 (fun hw => brF (by decide) ⟨by omega, by omega, ⟨fun _ => hQ _, fun _ => hQ _⟩⟩) (brT rfl (hQ _)))) (brT rfl (hQ _))
theorem zP_make (hG : zGC G) (hk : zKX H) (h : zLX H) (l1 l2 l3 l4 l5 : Int) (hQ : ∀ x K, zF 26 33 H K → zLX K → Q x K G) : wP_make Q l1 l2 l3 l4 l5 H G := by
  have no : ∀ x, Q x H G := fun x => hQ x H (zF_rf H) h
  by_cases a : l1 < 0
  · exact brT a ⟨Or.inl rfl, brT rfl (no _)⟩
  refine brF a ?_
  by_cases b : l1 < H 8 0
  case neg => exact brF b ⟨Or.inl rfl, brT rfl (no _)⟩
  have hb := hk.1
  refine brT b ⟨by omega, ?_⟩
  by_cases c : H 11 l1 = 0
  case neg => exact brF c ⟨Or.inl rfl, brT rfl (no _)⟩
  refine brT c ⟨Or.inr rfl, brF (by decide) ?_⟩
  intro H1 e1 H2 e2 H3 e3 H4 e4
  have f4 : zF 26 33 H H4 := by rw [e4, e3, e2, e1]; exact zF_up (zF_up (zF_up (zF_up (zF_rf H) (by decide)) (by decide)) (by decide)) (by decide)
  have a4 : ∀ x k : Int, x ≠ 33 → H4 x k = H x k := fun x k hx => by rw [e4, e3_up_ne (ne_1 hx), e3, e3_up_ne (ne_1 hx), e2, e3_up_ne (ne_1 hx), e1, e3_up_ne (ne_1 hx)]
  have l4' : zLX H4 := by
    unfold zLX
    rw [a4 26 1 (by decide)]
    exact ⟨h.1, fun i i0 i1 => by rw [a4 31 i (by decide)]; exact h.2.1 i i0 i1, fun i i0 i1 => by rw [a4 30 i (by decide)]; exact h.2.2 i i0 i1⟩
  have k4' : zKX H4 := zKX_eq hk (fun x k x0 x1 => a4 x k (by omega))
  have h80 : H4 8 0 = H 8 0 := a4 8 0 (by decide)
  refine zL_offerSuits k4' l4' l1 (fun hs => brF (by decide) (zL_putLeaf hG k4' l4' l1 (by omega) (fun k k0 k1 k2 => hs k k0 k1 ⟨by omega, by omega, k2⟩) (fun x K f l => hQ x K (zF_tr f4 f) l))) (brT rfl (hQ _ H4 f4 l4'))
end CLU
