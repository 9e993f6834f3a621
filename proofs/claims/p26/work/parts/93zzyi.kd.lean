/-- what kind answers -/
def kvl (H : e3_H) (m : Nat) (l1 l2 : Int) : Int := if l2 = 0 then H 43 l1 else if l2 = 1 then (if a_sl (H 43) l1 m = true then 1 else 0) else if l2 = 2 then H 44 l1 else if l2 = 7 then (if 0 < H 40 41 ∧ ¬ l1 < H 101 0 then 1 else 0) else if l2 - 3 < H 44 l1 then H 45 (4 * l1 + (l2 - 3)) else -4
section KDV
variable {Q : Int → e3_H → e3_G → Prop} {H σ : e3_H} {G : e3_G} {m : Nat}
theorem nM_kind {l1 l2 : Int} (hm : m ≤ 24) (h10 : H 40 10 = (m : Int)) (h44 : 0 ≤ l1 → l1 < (m : Int) → 0 ≤ H 44 l1 ∧ H 44 l1 ≤ 4) (hno : ¬ ((0 ≤ l1 ∧ l1 < (m : Int)) ∧ 0 ≤ l2 ∧ l2 ≤ 7) → Q (-1) H G) (hQ : (0 ≤ l1 ∧ l1 < (m : Int)) → 0 ≤ l2 → l2 ≤ 7 → Q (kvl H m l1 l2) H G) : wM_kind Q l1 l2 H G := by
  refine cM_in (fun a b => ⟨Or.inr rfl, brF (by decide) ?_⟩) (fun w => ⟨Or.inl rfl, brT rfl (hno (fun y => w ⟨y.1.1, ?_⟩))⟩)
  case refine_2 => rw [h10, e3_w32_id (by omega) (by omega)]; omega
  rw [h10, e3_w32_id (by omega) (by omega)] at b
  refine cM_in (fun c d => brF (by decide) ?_) (fun w => brT rfl (hno (fun y => w y.2)))
  have q : ∀ x, kvl H m l1 l2 = x → Q x H G := fun x e => e ▸ hQ ⟨a, by omega⟩ c d
  have r1 : (0 : Int) ≤ l1 ∧ l1 < 24 := by omega
  have h4 := h44 a (by omega)
  have pt : 3 ≤ l2 → l2 ≤ 6 → ((0 : Int) ≤ l1 ∧ (l1 : Int) < 24) ∧ ((((e3_w32 (l2 - 3)) : Int) < (H 44 l1) → ((0 : Int) ≤ (e3_w32 ((e3_w32 ((e3_w32 (4 * l1)) + l2)) - 3)) ∧ ((e3_w32 ((e3_w32 ((e3_w32 (4 * l1)) + l2)) - 3)) : Int) < 96) ∧ (wM_kind_148 Q (H 45 (e3_w32 ((e3_w32 ((e3_w32 (4 * l1)) + l2)) - 3))) H G)) ∧ (¬ (((e3_w32 (l2 - 3)) : Int) < (H 44 l1)) → (wM_kind_148 Q (-4) H G))) := fun g1 g2 => by
    rw [e3_w32_id (x := l2 - 3) (by omega) (by omega), e3_w32_id (x := 4 * l1) (by omega) (by omega), e3_w32_id (x := 4 * l1 + l2) (by omega) (by omega), e3_w32_id (x := 4 * l1 + l2 - 3) (by omega) (by omega)]
    refine ⟨r1, fun e => ⟨by omega, q _ ?_⟩, fun e => q _ ?_⟩
    · unfold kvl
      rw [if_neg (by omega), if_neg (by omega), if_neg (by omega), if_neg (by omega), if_pos e, show 4 * l1 + (l2 - 3) = 4 * l1 + l2 - 3 by omega]
    · unfold kvl
      rw [if_neg (by omega), if_neg (by omega), if_neg (by omega), if_neg (by omega), if_neg e]
  refine ⟨fun z => ⟨r1, q _ ?_⟩, fun z => cM_isSealed h10 hm (fun y => brF (by decide) (q _ ?_)) (fun y => brT rfl (q _ ?_)), fun z => ⟨r1, q _ ?_⟩, fun z => pt (by omega) (by omega), fun z => pt (by omega) (by omega), fun z => pt (by omega) (by omega), fun z => pt (by omega) (by omega), fun z => ⟨fun y => ⟨fun w => q _ ?_, fun w => q _ ?_⟩, fun y => q _ ?_⟩, fun z => by omega⟩
  · unfold kvl; rw [if_pos z]
  · unfold kvl; rw [if_neg (by omega), if_pos z, if_pos y]
  · unfold kvl; rw [if_neg (by omega), if_pos z, if_neg (by rw [y]; decide)]
  · unfold kvl; rw [if_neg (by omega), if_neg (by omega), if_pos z]
  · unfold kvl; rw [if_neg (by omega), if_neg (by omega), if_neg (by omega), if_pos z, if_neg (fun t => t.2 w)]
  · unfold kvl; rw [if_neg (by omega), if_neg (by omega), if_neg (by omega), if_pos z, if_pos ⟨y, w⟩]
  · unfold kvl; rw [if_neg (by omega), if_neg (by omega), if_neg (by omega), if_pos z, if_neg (fun t => y t.1)]
theorem vP_kind {l1 l2 : Int} (hd : c_kd σ m H) (hk : k_inv σ m) (e43 : H 43 = σ 43) (e44 : ∀ k : Int, H 44 k = σ 44 k) (e45 : ∀ k : Int, H 45 k = σ 45 k) (hS : zSX H G) (h41 : H 14 3 = H 40 41) (h101 : 0 < H 14 3 → H (H (H 15 0) 10) 3 = H 101 0) (hno : ¬ ((0 ≤ l1 ∧ l1 < (m : Int)) ∧ 0 ≤ l2 ∧ l2 ≤ 7) → Q (-1) H G) (hQ : (0 ≤ l1 ∧ l1 < (m : Int)) → 0 ≤ l2 → l2 ≤ 7 → Q (kvl H m l1 l2) H G) : wP_kind Q l1 l2 H G := by
  have h8 := hd.1
  have hm := hk.2.1
  by_cases r : 0 ≤ l1 ∧ l1 < (m : Int)
  case neg => exact zK_has l1 (fun z => absurd ⟨z.1, by omega⟩ r) (brT rfl (hno (fun y => r y.1)))
  refine brF (by omega) (brT (by omega) ⟨Or.inr rfl, brF (by decide) ?_⟩)
  by_cases a : l2 < 0
  · exact brT a (hno (fun y => by omega))
  refine brF a ?_
  by_cases b : 7 < l2
  · exact brT b (hno (fun y => by omega))
  refine brF b ?_
  have q : ∀ x, kvl H m l1 l2 = x → Q x H G := fun x e => e ▸ hQ r (by omega) (by omega)
  by_cases c : l2 = 7
  · refine brT c (zR_fA hS 0 (fun hz hfu => brF (by have := hfu.1.1; omega) ⟨ga_ob (c := 8) hfu.1.2, ga_ob (c := 5) hfu.2.2.2.2.2.1.2.1, fun y => q _ ?_, fun y => q _ ?_⟩) (fun hz => brT (by decide) (q _ ?_)))
    · rw [h101 hz.2] at y
      unfold kvl
      rw [if_neg (by omega), if_neg (by omega), if_neg (by omega), if_pos c, if_neg (fun t => t.2 y)]
    · rw [h101 hz.2] at y
      unfold kvl
      rw [if_neg (by omega), if_neg (by omega), if_neg (by omega), if_pos c, if_pos ⟨by omega, y⟩]
    · unfold kvl
      rw [if_neg (by omega), if_neg (by omega), if_neg (by omega), if_pos c, if_neg (fun t => hz ⟨by decide, by omega⟩)]
  · have el : ((l1.toNat : Nat) : Int) = l1 := by omega
    obtain ⟨d1, d2, d3, d4, d5⟩ := hd.2 l1.toNat (by omega)
    obtain ⟨k1, k2, k3⟩ := hk.2.2.2.2 l1.toNat (by omega)
    have up := hk.2.2.2.1 l1.toNat (by omega)
    rw [el] at d1 d2 d3 d4 d5 k1 k2 k3 up
    refine brF c ⟨fun z => ⟨by omega, fun y => q _ ?_, fun y => ⟨by omega, q _ ?_⟩⟩, fun z => ⟨by omega, fun y => q _ ?_, fun y => q _ ?_⟩, fun z => ⟨by omega, q _ ?_⟩, fun z => ?_⟩
    · unfold kvl
      rw [if_pos z, e43]
      rw [d2] at y
      by_cases w : σ 43 l1 < 0
      · omega
      · rw [if_neg w] at y; omega
    · unfold kvl
      rw [if_pos z, e43]
      rw [d2] at y ⊢
      by_cases w : σ 43 l1 < 0
      · rw [if_pos w] at y; omega
      · rw [if_neg w]
    · unfold kvl
      rw [if_neg (by omega), if_pos z, e43]
      rw [d5] at y
      by_cases w : a_sl (σ 43) l1 m = true
      · rw [if_pos w] at y; omega
      · rw [if_neg w]
    · unfold kvl
      rw [if_neg (by omega), if_pos z, e43]
      rw [d5] at y
      by_cases w : a_sl (σ 43) l1 m = true
      · rw [if_pos w]
      · rw [if_neg w] at y; omega
    · unfold kvl
      rw [if_neg (by omega), if_neg (by omega), if_pos z, e44, d3]
    · rw [e3_w32_id (x := l2 - 3) (by omega) (by omega)]
      refine brF (by omega) (brF (by omega) (brT (by omega) ⟨by omega, ?_⟩))
      show (l2 - 3 < H 12 l1 → _) ∧ (¬ l2 - 3 < H 12 l1 → _)
      rw [d3, e3_w32_id (x := l1 * 4) (by omega) (by omega), e3_w32_id (x := l1 * 4 + (l2 - 3)) (by omega) (by omega)]
      refine ⟨fun y => ⟨by omega, q _ ?_⟩, fun y => q _ ?_⟩
      · unfold kvl
        rw [if_neg (by omega), if_neg (by omega), if_neg (by omega), if_neg c, e44, if_pos y, e45]
        have := d4 (l2 - 3).toNat (by omega)
        rw [show (((l2 - 3).toNat : Nat) : Int) = l2 - 3 by omega] at this
        rw [← this, show l1 * 4 = 4 * l1 by omega]
      · unfold kvl
        rw [if_neg (by omega), if_neg (by omega), if_neg (by omega), if_neg c, e44, if_neg y]
end KDV
