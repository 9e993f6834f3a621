/-- trees of the reference -/
def zMS (nf : Nat) (H : e3_H) : Prop := ∀ f : Nat, f < nf → ∃ n : Nat, H 99 f = (n : Int) ∧ zTN f (300 * (f : Int)) n H
/-- tables of the reference, as far as queries go -/
def zMT (nf : Nat) (H : e3_H) : Prop := nf ≤ 12 ∧ H 40 41 = (nf : Int) ∧ (∀ f : Nat, f < nf → (0 ≤ H 68 f ∧ H 68 f ≤ 3) ∧ 0 ≤ H 70 f ∧ H 70 f ≤ 16) ∧ zMS nf H
section ZMQ
variable {Q : Int → e3_H → e3_G → Prop} {H : e3_H} {G : e3_G} {nf : Nat}
theorem zM_isFunction (h : zMT nf H) (l1 : Int) (h1 : 0 ≤ l1 ∧ l1 < nf → Q 1 H G) (h0 : Q 0 H G) : wM_isFunction Q l1 H G := by
  have h12 := h.1
  have h41 := h.2.1
  refine cM_in (fun a b => ⟨Or.inr rfl, h1 ?_⟩) (fun _ => ⟨Or.inl rfl, h0⟩)
  rw [e3_w32_id (by omega) (by omega)] at b
  omega
theorem zM_kindNamed (hk : zMK H) (l1 : Int) (hQ : ∀ x, Q x H G) : wM_kindNamed Q l1 H G := by
  obtain ⟨m, k1, k2, _⟩ := hk
  exact cM_kindOf k2 k1 (hQ _)
theorem zM_kind (hk : zMK H) (l1 l2 : Int) (hQ : ∀ x, Q x H G) : wM_kind Q l1 l2 H G := by
  obtain ⟨m, k1, k2, k3, k4⟩ := hk
  refine cM_in (fun a b => ⟨Or.inr rfl, brF (by decide) (cM_in (fun c d => brF (by decide) ?_) (fun _ => brT rfl (hQ _)))⟩) (fun _ => ⟨Or.inl rfl, brT rfl (hQ _)⟩)
  rw [e3_w32_id (by omega) (by omega)] at b
  have r1 : (0 : Int) ≤ l1 ∧ l1 < 24 := by omega
  have pt : 3 ≤ l2 → l2 ≤ 6 → ((0 : Int) ≤ l1 ∧ (l1 : Int) < 24) ∧ ((((e3_w32 (l2 - 3)) : Int) < (H 44 l1) → ((0 : Int) ≤ (e3_w32 ((e3_w32 ((e3_w32 (4 * l1)) + l2)) - 3)) ∧ ((e3_w32 ((e3_w32 ((e3_w32 (4 * l1)) + l2)) - 3)) : Int) < 96) ∧ (wM_kind_148 Q (H 45 (e3_w32 ((e3_w32 ((e3_w32 (4 * l1)) + l2)) - 3))) H G)) ∧ (¬ (((e3_w32 (l2 - 3)) : Int) < (H 44 l1)) → (wM_kind_148 Q (-4) H G))) := fun z1 z2 => by
    refine ⟨r1, fun _ => ⟨?_, hQ _⟩, fun _ => hQ _⟩
    rw [e3_w32_id (x := 4 * l1) (by omega) (by omega), e3_w32_id (x := 4 * l1 + l2) (by omega) (by omega), e3_w32_id (x := 4 * l1 + l2 - 3) (by omega) (by omega)]
    omega
  exact ⟨fun _ => ⟨r1, hQ _⟩, fun _ => cM_isSealed k2 k1 (fun _ => brF (by decide) (hQ _)) (fun _ => brT rfl (hQ _)), fun _ => ⟨r1, hQ _⟩, fun z => pt (by omega) (by omega), fun z => pt (by omega) (by omega), fun z => pt (by omega) (by omega), fun z => pt (by omega) (by omega), fun _ => ⟨fun _ => ⟨fun _ => hQ _, fun _ => hQ _⟩, fun _ => hQ _⟩, fun z => by omega⟩
theorem zM_depth {f : Nat} (hf : f < 13) {n : Nat} (h99 : H 99 f = (n : Int)) (hT : zTN f (300 * (f : Int)) n H) (hQ : ∀ x, Q x H G) : wM_depth Q f H G := by
  obtain ⟨t1, t2⟩ := hT
  have up : ∀ (k4 : Int → Int → Int → e3_H → e3_G → Prop) (l1 l2 l3 : Int), (∀ s0, wM_depth_60 Q k4 l1 l3 s0 H G) → ∀ (d : Nat) (l4 l5 : Int), (l5 = -4 ∨ ∃ i : Nat, i < d ∧ i < n ∧ l5 = 300 * (f : Int) + i) → wM_depth_26 Q k4 (d + 1) l1 l2 l3 l4 l5 H G := by
    intro k4 l1 l2 l3 h60 d
    induction d with
    | zero =>
      intro l4 l5 h5
      rcases h5 with z | ⟨i, i1, _⟩
      · exact brT z ⟨fun _ => h60 _, fun _ => h60 _⟩
      · omega
    | succ d ih =>
      intro l4 l5 h5
      rcases h5 with z | ⟨i, i1, i2, z⟩
      · exact brT z ⟨fun _ => h60 _, fun _ => h60 _⟩
      · refine brF (by omega) ⟨by omega, ih _ _ ?_⟩
        rw [z]
        rcases (t2 i i2).1 with y | ⟨i', y1, y2⟩
        · exact Or.inl y
        · exact Or.inr ⟨i', by omega, by omega, y2⟩
  have key : ∀ (d : Nat) (l2 : Int) (l3 : Nat), l3 + d = n → wM_depth_4 Q (d + 1) f l2 l3 H G := by
    intro d
    induction d with
    | zero =>
      intro l2 l3 hd
      exact ⟨by omega, brF (by rw [h99]; omega) (hQ _)⟩
    | succ d ih =>
      intro l2 l3 hd
      refine ⟨by omega, brT (by rw [h99]; omega) ⟨l3 + 2, ?_⟩⟩
      rw [e3_w32_id (x := 300 * (f : Int)) (by omega) (by omega), e3_w32_id (x := 300 * (f : Int) + (l3 : Int)) (by omega) (by omega)]
      refine up _ _ _ _ (fun s0 => ?_) (l3 + 1) 0 _ (Or.inr ⟨l3, by omega, by omega, rfl⟩)
      show wM_depth_4 Q (d + 1) f s0 (e3_w32 ((l3 : Int) + 1)) H G
      rw [w_p1 (by omega)]
      exact ih s0 (l3 + 1) (by omega)
  exact ⟨n + 1, key n 0 0 (by omega)⟩
theorem zM_function (h : zMT nf H) (l1 l2 : Int) (hQ : ∀ x, Q x H G) : wM_function Q l1 l2 H G := by
  obtain ⟨h1, h2, h3, h4⟩ := id h
  refine zM_isFunction h l1 (fun hl => brF (by decide) (cM_in (fun a b => brF (by decide) ?_) (fun _ => brT rfl (hQ _)))) (brT rfl (hQ _))
  obtain ⟨n, n1, n2⟩ := h4 l1.toNat (by omega)
  have ef : ((l1.toNat : Nat) : Int) = l1 := by omega
  have hd := zM_depth (Q := fun x14 H12 G13 => Q x14 H12 G13) (G := G) (by omega) n1 n2 (fun x => hQ x)
  rw [ef] at hd
  have h68 := (h3 l1.toNat (by omega)).1
  rw [ef] at h68
  refine ⟨fun _ => ⟨by omega, hQ _⟩, fun _ => ⟨by omega, hQ _⟩, fun _ => ⟨by omega, hQ _⟩, fun _ => ⟨by omega, hQ _⟩, fun _ => ⟨by omega, hQ _⟩, fun _ => hd, fun c => ⟨by omega, fun d => ?_, fun _ => hQ _⟩⟩
  rw [e3_w32_id (x := l2 - 6) (by omega) (by omega)] at d
  rw [e3_w32_id (x := 3 * l1) (by omega) (by omega), e3_w32_id (x := 3 * l1 + l2) (by omega) (by omega), e3_w32_id (x := 3 * l1 + l2 - 6) (by omega) (by omega)]
  exact ⟨by omega, hQ _⟩
theorem zM_n138 {l4 : Int} (h4 : 0 ≤ l4 ∧ l4 < 3900) (hQ : ∀ x, Q x H G) : ∀ (k : Nat) (l5 l6 : Int), l6 < 8 ^ k → l6 ≤ 2147483647 → wM_node_138 Q (k + 1) l4 l5 l6 H G := by
  intro k
  induction k with
  | zero =>
    intro l5 l6 h6 _
    rw [Int.pow_zero] at h6
    exact brF (by omega) ⟨h4, fun _ => hQ _, fun _ => hQ _⟩
  | succ k ih =>
    intro l5 l6 h6 h7
    by_cases c : 0 < l6
    · refine brT c ?_
      rw [shr_3 (by omega) (by omega)]
      refine ih _ _ ?_ (by omega)
      rw [Int.pow_succ] at h6
      omega
    · exact brF c ⟨h4, fun _ => hQ _, fun _ => hQ _⟩
theorem zM_node (h : zMT nf H) (l1 l2 l3 : Int) (hQ : ∀ x, Q x H G) : wM_node Q l1 l2 l3 H G := by
  obtain ⟨h1, h2, h3, h4⟩ := id h
  refine zM_isFunction h l1 (fun hl => brF (by decide) ⟨by omega, ?_⟩) (brT rfl (hQ _))
  obtain ⟨n, n1, t1, t2⟩ := h4 l1.toNat (by omega)
  have ef : ((l1.toNat : Nat) : Int) = l1 := by omega
  rw [ef] at n1 t2
  refine cM_in (fun a b => brF (by decide) (cM_in (fun c d => brF (by decide) ?_) (fun _ => brT rfl (hQ _)))) (fun _ => brT rfl (hQ _))
  rw [n1, e3_w32_id (by omega) (by omega)] at b
  rw [e3_w32_id (x := 300 * l1) (by omega) (by omega), e3_w32_id (x := 300 * l1 + l2) (by omega) (by omega)]
  have ix : (0 : Int) ≤ 300 * l1 + l2 ∧ 300 * l1 + l2 < 3900 := by omega
  have h105 := (t2 l2.toNat (by omega)).2.2.2.1
  rw [show ((l2.toNat : Nat) : Int) = l2 by omega] at h105
  refine ⟨fun _ => ⟨ix, hQ _⟩, fun _ => ⟨ix, fun _ => hQ _, fun _ => ⟨ix, by decide, hQ _⟩⟩, fun _ => ⟨ix, hQ _⟩, fun _ => ⟨ix, 12, ?_⟩, fun _ => ⟨ix, fun _ => hQ _, fun _ => ⟨ix, hQ _⟩⟩⟩
  have e8 : (8 : Int) ^ 11 = 8589934592 := by decide
  rcases h105 with z | z
  · rw [z]
    have : e3_shr (-4) 3 = -1 := by decide
    rw [this]
    exact zM_n138 ix hQ 11 _ _ (by omega) (by omega)
  · rw [shr_3 (by omega) (by omega)]
    exact zM_n138 ix hQ 11 _ _ (by omega) (by omega)
theorem zM_branch (h : zMT nf H) (l1 l2 l3 : Int) (hQ : ∀ x, Q x H G) : wM_branch Q l1 l2 l3 H G := by
  obtain ⟨h1, h2, h3, h4⟩ := id h
  refine zM_isFunction h l1 (fun hl => brF (by decide) ⟨by omega, ?_⟩) (brT rfl (hQ _))
  obtain ⟨n, n1, t1, t2⟩ := h4 l1.toNat (by omega)
  have ef : ((l1.toNat : Nat) : Int) = l1 := by omega
  rw [ef] at n1 t2
  refine cM_in (fun a b => brF (by decide) ?_) (fun _ => brT rfl (hQ _))
  rw [n1, e3_w32_id (by omega) (by omega)] at b
  rw [e3_w32_id (x := 300 * l1) (by omega) (by omega), e3_w32_id (x := 300 * l1 + l2) (by omega) (by omega)]
  have ix : (0 : Int) ≤ 300 * l1 + l2 ∧ 300 * l1 + l2 < 3900 := by omega
  obtain ⟨_, ⟨L, c1, c2, c3⟩, c4, _⟩ := t2 l2.toNat (by omega)
  rw [show ((l2.toNat : Nat) : Int) = l2 by omega] at c1 c2 c4
  refine ⟨ix, cM_in (fun c d => brF (by decide) ⟨ix, ?_⟩) (fun _ => brT rfl (hQ _))⟩
  rw [e3_w32_id (by omega) (by omega)] at d
  have key : ∀ (d : Nat) (L : List Int) (l4 l5 : Int), 0 ≤ l5 → l5 + d = l3 → mch H l4 L → (d : Int) < L.length → (∀ c, c ∈ L → ∃ i : Nat, i < n ∧ c = 300 * l1 + i) → wM_branch_69 Q (d + 1) l1 l3 l4 l5 H G := by
    intro d
    induction d with
    | zero => intro L l4 l5 g0 hd hm hl hc; exact brF (by omega) (hQ _)
    | succ d ih =>
      intro L l4 l5 g0 hd hm hl hc
      cases L with
      | nil => exact absurd hl (by show ¬ ((d + 1 : Nat) : Int) < 0; omega)
      | cons c L =>
        obtain ⟨m1, m2⟩ := hm
        obtain ⟨i, i1, i2⟩ := hc c (List.mem_cons_self ..)
        refine brT (by omega) ⟨by omega, ?_⟩
        rw [e3_w32_id (by omega) (by omega), m1]
        exact ih L _ (l5 + 1) (by omega) (by omega) m2 (by rw [List.length_cons] at hl; omega) (fun c' hc' => hc c' (List.mem_cons_of_mem _ hc'))
  refine ⟨l3.toNat + 1, key l3.toNat L _ 0 (by omega) (by omega) c1 (by omega) (fun c hc => ?_)⟩
  obtain ⟨i, i1, i2⟩ := c3 c hc
  exact ⟨i, i1.2, i2⟩
end ZMQ
