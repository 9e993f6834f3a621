def pk4 (l2 l3 l4 l5 i : Int) : Int := if i = 0 then l2 else if i = 1 then l3 else if i = 2 then l4 else l5
def zsm (H : e3_H) (p : Int → Int) : Nat → Int
  | 0 => 0
  | i + 1 => zsm H p i + H 131 (p i)
section ZMM
variable {Q : Int → e3_H → e3_G → Prop} {H : e3_H} {G : e3_G}
theorem zM_whole (h : zMV H) (l1 : Int) (hQ : ∀ x K, zMF H K → zMV K → Q x K G) : wM_whole Q l1 H G := zM_newValue h 0 _ _ (by decide) hQ
theorem zM_nothing (h : zMV H) (hQ : ∀ x K, zMF H K → zMV K → Q x K G) : wM_nothing Q H G := zM_newValue h 3 _ _ (by decide) hQ
theorem zM_truth (h : zMV H) (l1 : Int) (hQ : ∀ x K, zMF H K → zMV K → Q x K G) : wM_truth Q l1 H G := ⟨fun _ => zM_newValue h 1 _ _ (by decide) hQ, fun _ => zM_newValue h 1 _ _ (by decide) hQ⟩
theorem zsm_rg (p : Int → Int) : ∀ n : Nat, (∀ i : Nat, i < n → 1 ≤ H 131 (p i) ∧ H 131 (p i) ≤ 60) → 0 ≤ zsm H p n ∧ zsm H p n ≤ 60 * (n : Int) := by
  intro n
  induction n with
  | zero => intro _; exact ⟨Int.le_refl _, Int.le_refl _⟩
  | succ n ih =>
    intro h
    have a := ih (fun i hi => h i (by omega))
    have b := h n (by omega)
    have e : zsm H p (n + 1) = zsm H p n + H 131 (p n) := rfl
    omega
/-- a leaf is put down -/
theorem zM_mk159 (h : zMV H) (hk : zMK H) (l1 l2 l3 l4 l5 l6 : Int) (hl1 : 0 ≤ l1 ∧ l1 < H 40 10) (hp : ∀ i : Nat, (i : Int) < H 44 l1 → 0 ≤ pk4 l2 l3 l4 l5 i ∧ pk4 l2 l3 l4 l5 i < H 40 109) (h6 : l6 = 1 + zsm H (pk4 l2 l3 l4 l5) (H 44 l1).toNat) (h60 : l6 ≤ 60) (hc : H 40 109 ≠ 160) (hQ : ∀ x K, zMF H K → zMV K → Q x K G) : wM_newValue (fun x4 H2 G3 => ((0 : Int) ≤ x4 ∧ (x4 : Int) < 160) ∧ ∀ H5 : e3_H, H5 = e3_up H2 131 x4 l6 → (∃ n, wM_make_159 Q n l1 l2 l3 l4 l5 x4 0 H5 G3)) 4 l1 0 H G := by
  obtain ⟨hc0, h2, h3⟩ := id h
  obtain ⟨m, k1, k2, k3, k4⟩ := hk
  have h44 := k4 l1 hl1.1 (by omega)
  refine brF hc ⟨by omega, fun H1 e1 => ?_⟩
  have c1 : H1 40 109 = H 40 109 := by rw [e1, e3_up_ne (ne_1 (by decide))]
  refine ⟨by omega, fun H3 e3 => ?_⟩
  have c3 : H3 40 109 = H 40 109 := by rw [e3, e3_up_ne (ne_1 (by decide))]; exact c1
  refine ⟨by omega, fun H5 e5 => ?_⟩
  have c5 : H5 40 109 = H 40 109 := by rw [e5, e3_up_ne (ne_1 (by decide))]; exact c3
  refine ⟨by omega, fun H7 e7 H9 e9 => ?_⟩
  have c7 : H7 40 109 = H 40 109 := by rw [e7, e3_up_ne (ne_1 (by decide))]; exact c5
  rw [c1] at e3
  rw [c3] at e5
  rw [c5] at e7
  rw [c7, e3_w32_id (by omega) (by omega)] at e9
  have c9 : H9 40 109 = H 40 109 + 1 := by rw [e9]; exact e3_up_self ..
  rw [c9, e3_w32_id (by omega) (by omega), show H 40 109 + 1 - 1 = H 40 109 by omega]
  refine ⟨by omega, fun H0 e0 => ?_⟩
  have old : ∀ b k : Int, ¬ (b = 40 ∧ k = 109) → ¬ (128 ≤ b ∧ b ≤ 131 ∧ k = H 40 109) → H0 b k = H b k := fun b k n1 n2 => by
    rw [e0, e3_up_ne (fun z => n2 ⟨by omega, by omega, z.2⟩), e9, e3_up_ne n1, e7, e3_up_ne (fun z => n2 ⟨by omega, by omega, z.2⟩), e5, e3_up_ne (fun z => n2 ⟨by omega, by omega, z.2⟩), e3, e3_up_ne (fun z => n2 ⟨by omega, by omega, z.2⟩), e1, e3_up_ne (fun z => n2 ⟨by omega, by omega, z.2⟩)]
  have n128 : H0 128 (H 40 109) = 4 := by rw [e0, e3_up_ne (ne_1 (by decide)), e9, e3_up_ne (ne_1 (by decide)), e7, e3_up_ne (ne_1 (by decide)), e5, e3_up_ne (ne_1 (by decide)), e3, e3_up_ne (ne_1 (by decide)), e1]; exact e3_up_self ..
  have n129 : H0 129 (H 40 109) = l1 := by rw [e0, e3_up_ne (ne_1 (by decide)), e9, e3_up_ne (ne_1 (by decide)), e7, e3_up_ne (ne_1 (by decide)), e5, e3_up_ne (ne_1 (by decide)), e3]; exact e3_up_self ..
  have n131 : H0 131 (H 40 109) = l6 := by rw [e0]; exact e3_up_self ..
  have n109 : H0 40 109 = H 40 109 + 1 := by rw [e0, e3_up_ne (ne_1 (by decide))]; exact c9
  have o44 : ∀ k : Int, H0 44 k = H 44 k := fun k => old 44 k (ne_1 (by decide)) (by omega)
  have key : ∀ (n : Nat) (l8 : Int) (K : e3_H), 0 ≤ l8 → l8 + n = H 44 l1 → (∀ b k : Int, ¬ (b = 132 ∧ 4 * H 40 109 ≤ k ∧ k < 4 * H 40 109 + l8) → K b k = H0 b k) → (∀ i : Int, 0 ≤ i → i < l8 → K 132 (4 * H 40 109 + i) = pk4 l2 l3 l4 l5 i) → wM_make_159 Q (n + 1) l1 l2 l3 l4 l5 (H 40 109) l8 K G := by
    intro n
    induction n with
    | zero =>
      intro l8 K g0 hn hf hv
      have e44 : ∀ k : Int, K 44 k = H 44 k := fun k => by rw [hf 44 k (fun z => absurd z.1 (by decide))]; exact o44 k
      refine ⟨by omega, brF (by rw [e44]; omega) (hQ _ K ⟨fun b k b0 b1 => ?_, fun k hk => ?_, by rw [hf 40 109 (fun z => absurd z.1 (by decide)), n109]; omega⟩ ⟨?_, fun i i0 i1 => ?_, fun v v0 v1 => ?_⟩)⟩
      · rw [hf b k (fun z => by omega)]; exact old b k (fun z => b0 z.1) (by omega)
      · rw [hf 40 k (fun z => absurd z.1 (by decide))]; exact old 40 k (fun z => hk z.2) (by omega)
      · rw [hf 40 109 (fun z => absurd z.1 (by decide)), n109]; omega
      · by_cases z : 4 * H 40 109 ≤ i ∧ i < 4 * H 40 109 + l8
        · have e := hv (i - 4 * H 40 109) (by omega) (by omega)
          rw [show 4 * H 40 109 + (i - 4 * H 40 109) = i by omega] at e
          rw [e]
          have := hp (i - 4 * H 40 109).toNat (by omega)
          rw [show (((i - 4 * H 40 109).toNat : Nat) : Int) = i - 4 * H 40 109 by omega] at this
          rw [hf 40 109 (fun z => absurd z.1 (by decide)), n109]
          omega
        · rw [hf 132 i (fun y => z y.2), old 132 i (ne_1 (by decide)) (by omega), hf 40 109 (fun z => absurd z.1 (by decide)), n109]
          have := h2 i i0 i1
          omega
      · have e9' : K 40 109 = H 40 109 + 1 := by rw [hf 40 109 (fun z => absurd z.1 (by decide))]; exact n109
        have e10 : K 40 10 = H 40 10 := by rw [hf 40 10 (fun z => absurd z.1 (by decide))]; exact old 40 10 (by decide) (by omega)
        have f1 : ∀ b k : Int, b ≠ 132 → K b k = H0 b k := fun b k hb => hf b k (fun z => hb z.1)
        rw [e9'] at v1 ⊢
        rw [e10]
        by_cases z : v = H 40 109
        · subst z
          rw [f1 131 _ (by decide), f1 128 _ (by decide), f1 129 _ (by decide), n131, n128, n129, e44]
          have hz := zsm_rg (H := H) (pk4 l2 l3 l4 l5) (H 44 l1).toNat (fun i hi => (h3 _ (hp i (by omega)).1 (hp i (by omega)).2).1)
          refine ⟨by omega, fun _ => ⟨hl1, fun i i0 i1 => ?_, ?_⟩⟩
          · rw [hv i i0 (by omega)]
            have := hp i.toNat (by omega)
            rw [show ((i.toNat : Nat) : Int) = i by omega] at this
            omega
          · rw [h6]
            have : ∀ n : Nat, (n : Int) ≤ H 44 l1 → zps K (H 40 109) n = zsm H (pk4 l2 l3 l4 l5) n := by
              intro n
              induction n with
              | zero => intro _; rfl
              | succ n ih =>
                intro hn2
                show zps K (H 40 109) n + K 131 (K 132 (4 * H 40 109 + n)) = zsm H (pk4 l2 l3 l4 l5) n + H 131 (pk4 l2 l3 l4 l5 n)
                have := hp n (by omega)
                rw [ih (by omega), hv n (by omega) (by omega), f1 131 _ (by decide), old 131 _ (ne_1 (by decide)) (by omega)]
            rw [this _ (by omega)]
        · obtain ⟨a1, a2⟩ := h3 v v0 (by omega)
          rw [f1 131 v (by decide), f1 128 v (by decide), f1 129 v (by decide), old 131 v (ne_1 (by decide)) (by omega), old 128 v (ne_1 (by decide)) (by omega), old 129 v (ne_1 (by decide)) (by omega)]
          refine ⟨a1, fun y => ?_⟩
          obtain ⟨b1, b2, b3⟩ := a2 y
          have hkd := k4 (H 129 v) b1.1 (by omega)
          have e132 : ∀ i : Int, 0 ≤ i → i < H 44 (H 129 v) → K 132 (4 * v + i) = H 132 (4 * v + i) := fun i i0 i1 => by rw [hf 132 _ (fun t => by omega)]; exact old 132 _ (ne_1 (by decide)) (by omega)
          rw [e44]
          refine ⟨b1, fun i i0 i1 => ?_, ?_⟩
          · rw [e132 i i0 i1]
            have := b2 i i0 i1
            omega
          · rw [b3, zps_eq (K := K) (H := H) _ (fun i hi => ⟨e132 i (by omega) (by omega), ?_⟩)]
            have := b2 i (by omega) (by omega)
            rw [f1 131 _ (by decide), old 131 _ (ne_1 (by decide)) (by omega)]
    | succ n ih =>
      intro l8 K g0 hn hf hv
      have e44 : ∀ k : Int, K 44 k = H 44 k := fun k => by rw [hf 44 k (fun z => absurd z.1 (by decide))]; exact o44 k
      have n213 : ∀ s0 : Int, s0 = pk4 l2 l3 l4 l5 l8 → wM_make_213 Q (fun l1 l2 l3 l4 l5 l7 l8 H G => wM_make_159 Q (n + 1) l1 l2 l3 l4 l5 l7 l8 H G) l1 l2 l3 l4 l5 (H 40 109) l8 s0 (e3_w32 ((e3_w32 (4 * H 40 109)) + l8)) K G := fun s0 hs => by
        rw [e3_w32_id (x := 4 * H 40 109) (by omega) (by omega), e3_w32_id (x := 4 * H 40 109 + l8) (by omega) (by omega)]
        refine ⟨by omega, fun K1 f1 => ?_⟩
        rw [e3_w32_id (x := l8 + 1) (by omega) (by omega)]
        refine ih (l8 + 1) K1 (by omega) (by omega) (fun b k hb => ?_) (fun i i0 i1 => ?_)
        · rw [f1, e3_up_ne (fun z => hb ⟨z.1, by omega, by omega⟩)]
          exact hf b k (fun z => hb ⟨z.1, by omega, by omega⟩)
        · by_cases z : i = l8
          · subst z; rw [f1, e3_up_self]; exact hs
          · rw [f1, e3_up_ne (fun y => by omega)]; exact hv i i0 (by omega)
      refine ⟨by omega, brT (by rw [e44]; omega) ?_⟩
      by_cases z0 : l8 = 0
      · exact brT z0 (n213 _ (by unfold pk4; rw [if_pos z0]))
      refine brF z0 ?_
      by_cases z1 : l8 = 1
      · exact brT z1 (n213 _ (by unfold pk4; rw [if_neg z0, if_pos z1]))
      refine brF z1 ?_
      by_cases z2 : l8 = 2
      · exact brT z2 (n213 _ (by unfold pk4; rw [if_neg z0, if_neg z1, if_pos z2]))
      · exact brF z2 (n213 _ (by unfold pk4; rw [if_neg z0, if_neg z1, if_neg z2]))
  exact ⟨(H 44 l1).toNat + 1, key (H 44 l1).toNat 0 H0 (by omega) (by omega) (fun b k _ => rfl) (fun i i0 i1 => by omega)⟩
theorem zM_make (h : zMV H) (hk : zMK H) (l1 l2 l3 l4 l5 : Int) (hQ : ∀ x K, zMF H K → zMV K → Q x K G) : wM_make Q l1 l2 l3 l4 l5 H G := by
  have no : ∀ x, Q x H G := fun x => hQ x H (zMF_rf H) h
  obtain ⟨m, k1, k2, k3, k4⟩ := id hk
  have hc0 := h.1
  refine cM_in (fun a b => ⟨Or.inr rfl, brF (by decide) ?_⟩) (fun _ => ⟨Or.inl rfl, brT rfl (no _)⟩)
  rw [e3_w32_id (by omega) (by omega)] at b
  refine cM_isSealed (m := m) k2 k1 (fun _ => brF (by decide) (no _)) (fun _ => brT rfl ?_)
  have h44 := k4 l1 a (by omega)
  have key : ∀ (n : Nat) (l6 : Int) (l7 : Nat), (l7 : Int) + n = H 44 l1 → l6 = 1 + zsm H (pk4 l2 l3 l4 l5) l7 → (∀ i : Nat, i < l7 → 0 ≤ pk4 l2 l3 l4 l5 i ∧ pk4 l2 l3 l4 l5 i < H 40 109) → wM_make_24 Q (n + 1) l1 l2 l3 l4 l5 l6 l7 H G := by
    intro n
    induction n with
    | zero =>
      intro l6 l7 hn h6 hp
      refine ⟨by omega, brF (by omega) ⟨fun _ => no _, fun c => ⟨fun _ => no _, fun d => ?_⟩⟩⟩
      exact zM_mk159 h hk l1 l2 l3 l4 l5 l6 ⟨a, by omega⟩ (fun i hi => hp i (by omega)) (by rw [h6, show (H 44 l1).toNat = l7 by omega]) (by omega) c hQ
    | succ n ih =>
      intro l6 l7 hn h6 hp
      have hz := zsm_rg (H := H) (pk4 l2 l3 l4 l5) l7 (fun i hi => (h.2.2 _ (hp i hi).1 (hp i hi).2).1)
      have n67 : ∀ s0 : Int, s0 = pk4 l2 l3 l4 l5 l7 → wM_make_67 Q (fun l1 l2 l3 l4 l5 l6 l7 H G => wM_make_24 Q (n + 1) l1 l2 l3 l4 l5 l6 l7 H G) l1 l2 l3 l4 l5 l6 l7 s0 H G := fun s0 hs => by
        refine zM_isValue h s0 (fun hv => brF (by decide) ?_) (brT rfl (no _))
        rw [e3_w32_id (x := 4 * l1) (by omega) (by omega), e3_w32_id (x := 4 * l1 + (l7 : Int)) (by omega) (by omega)]
        refine ⟨by omega, zM_isOfSort hk h s0 _ hv (fun x hx => ?_)⟩
        rcases hx with z | z
        · exact brT z (no _)
        · refine brF (by rw [z]; decide) ⟨by omega, ?_⟩
          have h131 := (h.2.2 s0 hv.1 hv.2).1
          rw [e3_w32_id (x := l6 + H 131 s0) (by omega) (by omega), w_p1 (by omega)]
          refine ih _ (l7 + 1) (by omega) ?_ (fun i hi => ?_)
          · rw [h6, hs]
            show _ = 1 + (zsm H (pk4 l2 l3 l4 l5) l7 + H 131 (pk4 l2 l3 l4 l5 l7))
            omega
          · by_cases z : i = l7
            · rw [z, ← hs]; exact hv
            · exact hp i (by omega)
      refine ⟨by omega, brT (by omega) ?_⟩
      by_cases z0 : (l7 : Int) = 0
      · exact brT z0 (n67 _ (by unfold pk4; rw [if_pos z0]))
      refine brF z0 ?_
      by_cases z1 : (l7 : Int) = 1
      · exact brT z1 (n67 _ (by unfold pk4; rw [if_neg z0, if_pos z1]))
      refine brF z1 ?_
      by_cases z2 : (l7 : Int) = 2
      · exact brT z2 (n67 _ (by unfold pk4; rw [if_neg z0, if_neg z1, if_pos z2]))
      · exact brF z2 (n67 _ (by unfold pk4; rw [if_neg z0, if_neg z1, if_neg z2]))
  exact ⟨(H 44 l1).toNat + 1, key (H 44 l1).toNat 1 0 (by omega) (by rfl) (fun i hi => absurd hi (Nat.not_lt_zero _))⟩
end ZMM
