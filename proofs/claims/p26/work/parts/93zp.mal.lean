/-- sizes on the stack -/
def zst (H K : e3_H) : Nat → Int
  | 0 => 0
  | i + 1 => zst H K i + H 131 (K 133 i)
theorem zst_eq {H K K2 : e3_H} : ∀ n : Nat, (∀ i : Nat, i < n → K2 133 i = K 133 i) → zst H K2 n = zst H K n := by
  intro n
  induction n with
  | zero => intro _; rfl
  | succ n ih =>
    intro e
    show zst H K2 n + H 131 (K2 133 n) = zst H K n + H 131 (K 133 n)
    rw [ih (fun i hi => e i (by omega)), e n (by omega)]
theorem zst_ge {H K : e3_H} : ∀ n : Nat, (∀ i : Nat, i < n → 1 ≤ H 131 (K 133 i)) → (n : Int) ≤ zst H K n := by
  intro n
  induction n with
  | zero => intro _; exact Int.le_refl _
  | succ n ih =>
    intro e
    have := ih (fun i hi => e i (by omega))
    have := e n (by omega)
    show ((n + 1 : Nat) : Int) ≤ zst H K n + H 131 (K 133 n)
    omega
theorem zps_ge {H : e3_H} {v : Int} : ∀ n : Nat, (∀ i : Nat, i < n → 1 ≤ H 131 (H 132 (4 * v + i))) → 0 ≤ zps H v n ∧ ∀ j : Nat, j ≤ n → zps H v j ≤ zps H v n := by
  intro n
  induction n with
  | zero => intro _; exact ⟨Int.le_refl _, fun j hj => by have e : j = 0 := Nat.le_zero.mp hj; rw [e]; exact Int.le_refl _⟩
  | succ n ih =>
    intro e
    obtain ⟨a, b⟩ := ih (fun i hi => e i (by omega))
    have c := e n (by omega)
    have d : zps H v (n + 1) = zps H v n + H 131 (H 132 (4 * v + n)) := rfl
    refine ⟨by omega, fun j hj => ?_⟩
    by_cases z : j = n + 1
    · rw [z]; exact Int.le_refl _
    · have := b j (by omega)
      omega
section ZMA
variable {Q : Int → e3_H → e3_G → Prop} {H : e3_H} {G : e3_G}
theorem zM_alike (h : zMV H) (hk : zMK H) (l1 l2 : Int) (hQ : ∀ x K, (∀ a k : Int, a ≠ 133 → a ≠ 134 → K a k = H a k) → Q x K G) : wM_alike Q l1 l2 H G := by
  obtain ⟨hc, h2, h3⟩ := id h
  obtain ⟨m, k1, k2, k3, k4⟩ := hk
  have no : ∀ x, Q x H G := fun x => hQ x H (fun _ _ _ _ => rfl)
  have key : ∀ (n l3 : Nat) (K : e3_H), (∀ a k : Int, a ≠ 133 → a ≠ 134 → K a k = H a k) → (∀ i : Nat, i < l3 → (0 ≤ K 133 i ∧ K 133 i < H 40 109) ∧ 0 ≤ K 134 i ∧ K 134 i < 160) → zst H K l3 ≤ n → n ≤ 60 → wM_alike_34 Q (n + 1) l3 K G := by
    intro n
    induction n with
    | zero =>
      intro l3 K hf hv hz hn
      have := zst_ge (H := H) (K := K) l3 (fun i hi => (h3 _ (hv i hi).1.1 (hv i hi).1.2).1.1)
      exact brF (by omega) (hQ _ K hf)
    | succ n ih =>
      intro l3 K hf hv hz hn
      have hge := zst_ge (H := H) (K := K) l3 (fun i hi => (h3 _ (hv i hi).1.1 (hv i hi).1.2).1.1)
      by_cases c : 0 < l3
      case neg => exact brF (by omega) (hQ _ K hf)
      obtain ⟨p, rfl⟩ : ∃ p, l3 = p + 1 := ⟨l3 - 1, by omega⟩
      have ep : e3_w32 (((p + 1 : Nat) : Int) + (-1)) = (p : Int) := by rw [e3_w32_id (by omega) (by omega)]; omega
      obtain ⟨⟨v0, v1⟩, w0, w1⟩ := hv p (by omega)
      have zp : zst H K (p + 1) = zst H K p + H 131 (K 133 p) := rfl
      obtain ⟨s1, s2⟩ := h3 _ v0 v1
      have fin : ∀ x, Q x K G := fun x => hQ x K hf
      refine brT (by omega) ?_
      rw [ep]
      refine ⟨by omega, by omega, by omega, by omega, fun _ => ⟨by omega, by omega, fun _ => ⟨by omega, by omega, fun _ => ⟨by omega, by omega, fun _ => ?_, fun _ => fin _⟩, fun _ => fin _⟩, fun _ => fin _⟩, fun _ => fin _⟩
      generalize hV : K 133 p = v at v0 v1 zp s1 s2
      generalize K 134 p = w at w0 w1
      have e128 : K 128 v = H 128 v := hf 128 v (by decide) (by decide)
      by_cases h4 : H 128 v = 4
      · obtain ⟨b1, b2, b3⟩ := s2 h4
        have h44 := k4 (H 129 v) b1.1 (by omega)
        have psz := zps_ge (H := H) (v := v) (H 44 (H 129 v)).toNat (fun i hi => (h3 _ (b2 i (by omega) (by omega)).1 (b2 i (by omega) (by omega)).2).1.1)
        have push : ∀ (d l6 : Nat) (K' : e3_H), (l6 : Int) + d = H 44 (H 129 v) → (∀ a k : Int, a ≠ 133 → a ≠ 134 → K' a k = H a k) → (∀ i : Nat, i < p + l6 → (0 ≤ K' 133 i ∧ K' 133 i < H 40 109) ∧ 0 ≤ K' 134 i ∧ K' 134 i < 160) → zst H K' (p + l6) = zst H K p + zps H v l6 → wM_alike_131 Q (fun l3 H G => wM_alike_34 Q (n + 1) l3 H G) (d + 1) ((p + l6 : Nat) : Int) v w l6 K' G := by
          intro d
          induction d with
          | zero =>
            intro l6 K' hd hf' hv' hz'
            refine ⟨by omega, brT (by rw [hf' 128 v (by decide) (by decide)]; exact h4) ⟨by omega, by rw [hf' 129 v (by decide) (by decide)]; omega, ?_⟩⟩
            rw [hf' 129 v (by decide) (by decide), hf' 44 _ (by decide) (by decide)]
            refine brF (by omega) (ih (p + l6) K' hf' hv' ?_ (by omega))
            rw [hz', show l6 = (H 44 (H 129 v)).toNat by omega]
            omega
          | succ d ihd =>
            intro l6 K' hd hf' hv' hz'
            have part := b2 l6 (by omega) (by omega)
            have hzz := psz.2 l6 (by omega)
            have hge' := zst_ge (H := H) (K := K') (p + l6) (fun i hi => (h3 _ (hv' i hi).1.1 (hv' i hi).1.2).1.1)
            have hzp := zst_ge (H := H) (K := K) p (fun i hi => (h3 _ (hv i (by omega)).1.1 (hv i (by omega)).1.2).1.1)
            refine ⟨by omega, brT (by rw [hf' 128 v (by decide) (by decide)]; exact h4) ⟨by omega, by rw [hf' 129 v (by decide) (by decide)]; omega, ?_⟩⟩
            rw [hf' 129 v (by decide) (by decide), hf' 44 _ (by decide) (by decide)]
            refine brT (by omega) ?_
            rw [e3_w32_id (x := 4 * v) (by omega) (by omega), e3_w32_id (x := 4 * v + (l6 : Int)) (by omega) (by omega), e3_w32_id (x := 4 * w) (by omega) (by omega), e3_w32_id (x := 4 * w + (l6 : Int)) (by omega) (by omega)]
            refine ⟨by omega, by omega, fun H4 f4 => ⟨by omega, by omega, fun H7 f7 => ?_⟩⟩
            rw [w_p1 (by omega), w_p1 (by omega)]
            have g4 : H4 132 (4 * w + (l6 : Int)) = H 132 (4 * w + (l6 : Int)) := by rw [f4, e3_up_ne (ne_1 (by decide))]; exact hf' 132 _ (by decide) (by decide)
            have g3 : K' 132 (4 * v + (l6 : Int)) = H 132 (4 * v + (l6 : Int)) := hf' 132 _ (by decide) (by decide)
            rw [g4] at f7
            rw [g3] at f4
            have rg := zMV_132 h (4 * w + (l6 : Int)) (by omega) (by omega)
            refine ihd (l6 + 1) H7 (by omega) (fun a k a1 a2 => ?_) (fun i hi => ?_) ?_
            · rw [f7, e3_up_ne (ne_1 a2), f4, e3_up_ne (ne_1 a1)]; exact hf' a k a1 a2
            · by_cases z : i = p + l6
              · subst z
                rw [f7, e3_up_ne (ne_1 (by decide)), e3_up_self, f4, e3_up_self]
                exact ⟨part, rg⟩
              · rw [f7, e3_up_ne (ne_1 (by decide)), e3_up_ne (ne_2 (by omega)), f4, e3_up_ne (ne_2 (by omega)), e3_up_ne (ne_1 (by decide))]
                exact hv' i (by omega)
            · show zst H H7 (p + l6) + H 131 (H7 133 ((p + l6 : Nat) : Int)) = zst H K p + (zps H v l6 + H 131 (H 132 (4 * v + l6)))
              have q1 : H7 133 ((p + l6 : Nat) : Int) = H 132 (4 * v + (l6 : Int)) := by rw [f7, e3_up_ne (ne_1 (by decide)), f4, e3_up_self]
              rw [q1, zst_eq (K := K') (p + l6) (fun i hi => by rw [f7, e3_up_ne (ne_1 (by decide)), f4, e3_up_ne (ne_2 (by omega))]), hz']
              omega
        have := push (H 44 (H 129 v)).toNat 0 K (by omega) hf (fun i hi => hv i (by omega)) (by show zst H K (p + 0) = zst H K p + 0; rw [Nat.add_zero]; omega)
        exact ⟨_, this⟩
      · refine ⟨1, ⟨by omega, brF (by rw [e128]; exact h4) (ih p K hf (fun i hi => hv i (by omega)) (by omega) (by omega))⟩⟩
  refine zM_isValue h l1 (fun hl => brF (by decide) (zM_isValue h l2 (fun hl2 => brF (by decide) ?_) (brT rfl (no _)))) (brT rfl (no _))
  intro H7 e7 H8 e8
  have s := (h3 l1 hl.1 hl.2).1
  refine ⟨61, key 60 1 H8 (fun a k a1 a2 => by rw [e8, e3_up_ne (ne_1 a2), e7, e3_up_ne (ne_1 a1)]) (fun i hi => ?_) ?_ (by omega)⟩
  · have : i = 0 := by omega
    subst this
    rw [e8, e3_up_ne (ne_1 (by decide)), e7]
    refine ⟨by rw [show ((0 : Nat) : Int) = 0 from rfl, e3_up_self]; exact hl, ?_⟩
    rw [show ((0 : Nat) : Int) = 0 from rfl, e3_up_self]
    omega
  · show 0 + H 131 (H8 133 0) ≤ _
    rw [e8, e3_up_ne (ne_1 (by decide)), e7, e3_up_self]
    omega
end ZMA
