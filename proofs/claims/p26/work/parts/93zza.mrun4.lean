section ZRX
variable {Q : Int → e3_H → e3_G → Prop} {σ H : e3_H} {G : e3_G} {nf : Nat} {Vs : Int → Int → Int → List (Int × Int)}
theorem zM_152 {l5 : Int} (hn12 : nf ≤ 12) (hG : zG σ nf Vs) (htb : tb σ H) (hM : zMV H) (hK : zMK H) (hS : ∀ f : Nat, f < nf → ∃ n : Nat, 1 ≤ n ∧ zTN f (300 * (f : Int)) n H) (hQ : ∀ x K, zR H K → zMH K → Q x K G) : ∀ (d t : Nat) (f l6 : Int) (K : e3_H), t + d = 99 → zRI σ H nf t f K → wM_runs_152 Q (d + 2) l5 l6 f 1 K G := by
  have hc := hM.1
  have end0 : ∀ (n : Nat) (l6 l7 : Int) (K : e3_H), zRE H K → wM_runs_152 Q (n + 1) l5 l6 l7 0 K G := fun n l6 l7 K hE => by
    obtain ⟨r, s, b1, b2, b3⟩ := hE
    refine brT rfl (fun H1 e1 => ?_)
    have r1 : zR H H1 := by rw [e1]; exact zR_up r (by omega)
    refine hQ _ H1 r1 (z6_MH (c := H 40 109) (by rw [e1]; exact z6_up s (Or.inl (by decide))) (r1.2 109 (by decide) (by decide)) ?_ ⟨?_, ?_⟩)
    · rw [e1, e3_up_ne (ne_2 (by decide))]; exact b1
    · rw [e1, e3_up_ne (ne_2 (by decide))]; exact b2
    · rw [e1, e3_up_ne (ne_2 (by decide))]; exact b3
  intro d
  induction d with
  | zero =>
    intro t f l6 K ht hI
    exact zM_152s (nn := 1) (t := t) hn12 hG htb hM hK hS (by omega) (fun l6 l7 K h => end0 0 l6 l7 K h) (fun hlt => absurd hlt (by omega)) hI
  | succ d ih =>
    intro t f l6 K ht hI
    exact zM_152s (nn := d + 2) (t := t) hn12 hG htb hM hK hS (by omega) (fun l6 l7 K h => end0 (d + 1) l6 l7 K h) (fun _ f' l6 K h => ih (t + 1) f' l6 K (by omega) h) hI
theorem zM_runs {l1 l2 l3 l4 l5 : Int} (hn12 : nf ≤ 12) (h41 : H 40 41 = (nf : Int)) (hG : zG σ nf Vs) (htb : tb σ H) (hM : zMV H) (hK : zMK H) (hH : zMH H) (hS : ∀ f : Nat, f < nf → ∃ n : Nat, 1 ≤ n ∧ zTN f (300 * (f : Int)) n H) (hQ : ∀ x K, zR H K → zMH K → Q x K G) : wM_runs Q l1 l2 l3 l4 l5 H G := by
  have hc := hM.1
  have no : ∀ x, Q x H G := fun x => hQ x H (zR_rf H) hH
  refine cM_in (fun a b => ⟨Or.inr rfl, brF (by decide) ⟨4, ?_⟩⟩) (fun _ => ⟨Or.inl rfl, brT rfl (no _)⟩)
  rw [h41, e3_w32_id (by omega) (by omega)] at b
  obtain ⟨g1, g2, g3⟩ := hG l1 a (by omega)
  have e68 : H 68 l1 = σ 68 l1 := htb 68 l1 (by decide) (by decide) (by decide)
  have fin : (∀ i : Int, 0 ≤ i → i < σ 68 l1 → 0 ≤ pk4 l2 l3 l4 l4 i ∧ pk4 l2 l3 l4 l4 i < H 40 109) → ∀ H2 : e3_H, H2 = e3_up H 135 0 l2 → ∀ H3 : e3_H, H3 = e3_up H2 135 1 l3 → ∀ H4 : e3_H, H4 = e3_up H3 135 2 l4 → ∀ H5 : e3_H, H5 = e3_up H4 40 119 0 → ∀ H6 : e3_H, H6 = e3_up H5 40 120 0 → ∀ H7 : e3_H, H7 = e3_up H6 40 121 0 → ∀ H8 : e3_H, H8 = e3_up H7 40 122 0 → ∀ H9 : e3_H, H9 = e3_up H8 40 123 0 → ∀ H10 : e3_H, H10 = e3_up H9 40 128 0 → ∀ H11 : e3_H, H11 = e3_up H10 40 125 (-4) → (∃ n, wM_runs_152 Q n l5 (-4) l1 1 H11 G) := fun hv H2 e2 H3 e3 H4 e4 H5 e5 H6 e6 H7 e7 H8 e8 H9 e9 H10 e10 H11 e11 => by
    have hc1 : 1 ≤ H 40 109 := by have := hv 0 (by omega) (by omega); omega
    have r11 : zR H H11 := by rw [e11, e10, e9, e8, e7, e6, e5, e4, e3, e2]; exact zR_up (zR_up (zR_up (zR_up (zR_up (zR_up (zR_up (zR_up (zR_up (zR_up (zR_rf H) (by omega)) (by omega)) (by omega)) (by omega)) (by omega)) (by omega)) (by omega)) (by omega)) (by omega)) (by omega)
    have a11 : ∀ x k : Int, x ≠ 40 → H11 x k = H4 x k := fun x k hx => by rw [e11, e3_up_ne (ne_1 hx), e10, e3_up_ne (ne_1 hx), e9, e3_up_ne (ne_1 hx), e8, e3_up_ne (ne_1 hx), e7, e3_up_ne (ne_1 hx), e6, e3_up_ne (ne_1 hx), e5, e3_up_ne (ne_1 hx)]
    refine ⟨101, zM_152 hn12 hG htb hM hK hS hQ 99 0 l1 _ H11 rfl ⟨⟨a, by omega⟩, r11, fun i i0 i1 => ?_, fun i i0 i1 => ?_, ?_, ⟨?_, ?_⟩, ?_, ?_⟩⟩
    · rw [a11 136 i (by decide), e4, e3_up_ne (ne_1 (by decide)), e3, e3_up_ne (ne_1 (by decide)), e2, e3_up_ne (ne_1 (by decide))]
      exact zMH_6 hH hc1 i i0 i1
    · have := hv i i0 i1
      rw [a11 135 i (by decide), e4]
      unfold pk4 at this
      by_cases z2 : i = 2
      · subst z2
        rw [e3_up_self]
        rw [if_neg (by decide), if_neg (by decide), if_pos rfl] at this
        exact this
      · rw [e3_up_ne (ne_2 z2), e3]
        by_cases z1 : i = 1
        · subst z1
          rw [e3_up_self]
          rw [if_neg (by decide), if_pos rfl] at this
          exact this
        · have z0 : i = 0 := by omega
          subst z0
          rw [e3_up_ne (ne_2 (by decide)), e2, e3_up_self]
          rw [if_pos rfl] at this
          exact this
    · rw [e11, e3_up_ne (ne_2 (by decide)), e10, e3_up_ne (ne_2 (by decide)), e9, e3_up_ne (ne_2 (by decide)), e8, e3_up_ne (ne_2 (by decide)), e7]; exact e3_up_self ..
    · rw [e11, e3_up_ne (ne_2 (by decide)), e10, e3_up_ne (ne_2 (by decide)), e9, e3_up_self]; decide
    · rw [e11, e3_up_ne (ne_2 (by decide)), e10, e3_up_ne (ne_2 (by decide)), e9, e3_up_self]; decide
    · rw [e11, e3_up_ne (ne_2 (by decide)), e10, e3_up_self]; decide
    · rw [e11, e3_up_ne (ne_2 (by decide)), e10, e3_up_self]; decide
  have key : ∀ (d : Nat) (l6 : Int), 0 ≤ l6 → l6 + d = 3 → (∀ i : Int, 0 ≤ i → i < l6 → 0 ≤ pk4 l2 l3 l4 l4 i ∧ pk4 l2 l3 l4 l4 i < H 40 109) → wM_runs_13 Q (d + 1) l1 l2 l3 l4 l5 l6 H G := by
    intro d
    induction d with
    | zero =>
      intro l6 h0 hd hv
      refine ⟨by omega, brF (by rw [e68]; omega) (fin (fun i i0 i1 => hv i i0 (by omega)))⟩
    | succ d ih =>
      intro l6 h0 hd hv
      have n45 : ∀ s0 : Int, s0 = pk4 l2 l3 l4 l4 l6 → wM_runs_45 Q (fun l1 l2 l3 l4 l5 l6 H G => wM_runs_13 Q (d + 1) l1 l2 l3 l4 l5 l6 H G) l1 l2 l3 l4 l5 l6 s0 H G := fun s0 hs => by
        refine zM_isValue hM s0 (fun hsv => brF (by decide) ?_) (brT rfl (no _))
        rw [e3_w32_id (x := 3 * l1) (by omega) (by omega), e3_w32_id (x := 3 * l1 + l6) (by omega) (by omega)]
        refine ⟨by omega, zM_isOfSort hK hM s0 _ hsv (fun x hx => ⟨fun _ => no _, fun _ => ?_⟩)⟩
        rw [e3_w32_id (x := l6 + 1) (by omega) (by omega)]
        refine ih (l6 + 1) (by omega) (by omega) (fun i i0 i1 => ?_)
        by_cases z : i = l6
        · rw [z, ← hs]; exact hsv
        · exact hv i i0 (by omega)
      refine ⟨by omega, ?_⟩
      rw [e68]
      refine ⟨fun z => ?_, fun z => fin (fun i i0 i1 => hv i i0 (by omega))⟩
      by_cases z0 : l6 = 0
      · exact brT z0 (n45 _ (by unfold pk4; rw [if_pos z0]))
      refine brF z0 ?_
      by_cases z1 : l6 = 1
      · exact brT z1 (n45 _ (by unfold pk4; rw [if_neg z0, if_pos z1]))
      · exact brF z1 (n45 _ (by unfold pk4; rw [if_neg z0, if_neg z1]; split <;> rfl))
  exact key 3 0 (by omega) (by omega) (fun i i0 i1 => by omega)
theorem zM_told {l1 : Int} (hQ : ∀ x, Q x H G) : wM_told Q l1 H G := by
  refine cM_in (fun a b => brF (by decide) ⟨fun _ => hQ _, fun _ => ⟨fun _ => hQ _, fun _ => ⟨fun _ => hQ _, fun _ => ⟨fun _ => hQ _, fun _ => ⟨fun _ => hQ _, fun _ => ⟨fun _ => hQ _, fun _ => ⟨fun _ => hQ _, fun _ => hQ _⟩⟩⟩⟩⟩⟩⟩) (fun _ => brT rfl (hQ _))
theorem zM_guard {l1 : Int} (hH : zMH H) (hQ : ∀ x, Q x H G) : wM_guard Q l1 H G := by
  have h := hH.2.1
  have n21 : ∀ s0 : Int, 0 ≤ s0 → s0 ≤ 32 → wM_guard_21 Q l1 s0 0 l1 H G := fun s0 z1 z2 => by
    unfold wM_guard_21
    rw [e3_w32_id (by omega) (by omega)]
    exact cM_in (fun a b => brF (by decide) ⟨by omega, hQ _⟩) (fun _ => brT rfl (hQ _))
  exact ⟨fun z => n21 _ h (by omega), fun z => n21 _ (by decide) (by decide)⟩
theorem zM_bound {l1 : Int} (hH : zMH H) (hQ : ∀ x, Q x H G) : wM_bound Q l1 H G := by
  have h := hH.2.2
  unfold wM_bound
  rw [e3_w32_id (by omega) (by omega)]
  exact cM_in (fun a b => brF (by decide) ⟨by omega, hQ _⟩) (fun _ => brT rfl (hQ _))
theorem zM_count {l1 : Int} (hQ : ∀ x, Q x H G) : wM_count Q l1 H G := ⟨fun _ => hQ _, fun _ => ⟨fun _ => hQ _, fun _ => ⟨fun _ => hQ _, fun _ => ⟨fun _ => hQ _, fun _ => ⟨fun _ => hQ _, fun _ => hQ _⟩⟩⟩⟩⟩
end ZRX
