/-- the children of an open pattern so far, with what each notes on every way -/
def kJ (σ : e3_H) (k : Nat) (p last : Int) (L : List Int) (C : Int → Nat → Bool) : Prop := (L = [] ∧ last = -4) ∨ ∃ L0 : List Int, L = L0 ++ [last] ∧ (∀ c, c ∈ L0 → p < c ∧ c < last ∧ ∀ w : Nat, C c w = true → nv σ k last c w) ∧ (p < last ∧ last < σ 40 16 ∧ ∀ w : Nat, C last w = true → nv σ k (σ 40 16) last w) ∧ ach σ (σ 51 p) (L0 ++ [last])
theorem kJ_lt {σ : e3_H} {k : Nat} {p last : Int} {L : List Int} {C : Int → Nat → Bool} (h : kJ σ k p last L C) : ∀ c, c ∈ L → p < c ∧ c < σ 40 16 := by
  intro c hc
  rcases h with ⟨y, _⟩ | ⟨L0, e, l1, ⟨l2, l3, _⟩, _⟩
  · rw [y] at hc; exact absurd hc (List.not_mem_nil)
  · rw [e] at hc
    rcases List.mem_append.mp hc with z | z
    · have := l1 c z
      exact ⟨this.1, by omega⟩
    · rw [List.mem_singleton.mp z]; exact ⟨l2, l3⟩
theorem kJ_end {σ : e3_H} {k : Nat} {p last : Int} {L : List Int} {C : Int → Nat → Bool} (h : kJ σ k p last L C) (hL : L ≠ []) : ach σ (σ 51 p) L ∧ ∀ c, c ∈ L → (p < c ∧ c < σ 40 16) ∧ ∀ w : Nat, C c w = true → nv σ k (σ 40 16) c w := by
  have hlt := kJ_lt h
  rcases h with ⟨y, _⟩ | ⟨L0, e, l1, ⟨l2, l3, l4⟩, l5⟩
  · exact absurd y hL
  · refine ⟨by rw [e]; exact l5, fun c hc => ⟨hlt c hc, fun w hw => ?_⟩⟩
    rw [e] at hc
    rcases List.mem_append.mp hc with z | z
    · exact nv_mono k last _ c ((l1 c z).2.2 w hw) (by omega)
    · rw [List.mem_singleton.mp z] at hw ⊢; exact l4 w hw
theorem kJ_keep {σ σ2 : e3_H} {k : Nat} {p last : Int} {L : List Int} {C : Int → Nat → Bool} (h : kJ σ k p last L C) (e : ∀ a x : Int, a = 46 ∨ a = 51 ∨ a = 52 ∨ a = 53 ∨ a = 54 → σ2 a x = σ a x) (e16 : σ2 40 16 = σ 40 16) : kJ σ2 k p last L C := by
  rcases h with y | ⟨L0, e1, l1, ⟨l2, l3, l4⟩, l5⟩
  · exact Or.inl y
  · refine Or.inr ⟨L0, e1, fun c hc => ?_, ⟨l2, by omega, fun w hw => ?_⟩, ?_⟩
    · obtain ⟨m1, m2, m3⟩ := l1 c hc
      exact ⟨m1, m2, fun w hw => nv_keep k last c (m3 w hw) m2 (fun a x ha _ _ => e a x (by omega)) (fun x _ _ q => by rw [e 54 x (by decide)]; exact q) (fun x _ _ => e 52 x (by decide))⟩
    · rw [e16]
      exact nv_keep k _ last (l4 w hw) l3 (fun a x ha _ _ => e a x (by omega)) (fun x _ _ q => by rw [e 54 x (by decide)]; exact q) (fun x _ _ => e 52 x (by decide))
    · rw [e 51 p (by decide)]
      exact ach_keep _ _ l5 (fun c _ => e 52 c (by decide))
/-- a child more -/
theorem kJ_into {σ σ3 : e3_H} {k : Nat} {p last q : Int} {L : List Int} {C : Int → Nat → Bool} {Cq : Nat → Bool} (h : kJ σ k p last L C) (h0 : 0 ≤ p) (hp : p < σ 40 16) (hq : q = σ 40 16) (hq2 : q < σ3 40 16) (hfr : ∀ a x : Int, 46 ≤ a → a ≤ 55 → x < σ 40 16 → σ3 a x = σ a x) (hw : ∀ w : Nat, Cq w = true → nv σ3 k (σ3 40 16) q w) (h52 : σ3 52 q = -4) : kJ (a_into σ3 p last q) k p q (L ++ [q]) (fun c w => if c = q then Cq w else C c w) := by
  have e16 : a_into σ3 p last q 40 16 = σ3 40 16 := a_into_at 40 16 (by omega) (by omega) (by omega)
  have eo : ∀ a x : Int, a ≠ 51 → a ≠ 52 → a ≠ 55 → a_into σ3 p last q a x = σ3 a x := fun a x h1 h2 h3 => a_into_at a x h1 h2 h3
  refine Or.inr ⟨L, rfl, ?_⟩
  rcases h with ⟨l0, l1⟩ | ⟨L0, l0, l1, ⟨l2, l3, l4⟩, l5⟩
  · have u : a_into σ3 p last q = e3_up (e3_up σ3 51 p q) 55 p (σ3 55 q) := by unfold a_into; rw [if_pos l1]
    subst l0
    refine ⟨fun c hc => absurd hc (List.not_mem_nil), ⟨by omega, by rw [e16]; exact hq2, fun w hcw => ?_⟩, ?_⟩
    · have hcw : (if q = q then Cq w else C q w) = true := hcw
      rw [if_pos rfl] at hcw
      rw [e16]
      refine nv_keep k _ q (hw w hcw) hq2 (fun a x ha hx _ => ?_) (fun x _ _ z => by rw [eo 54 x (by decide) (by decide) (by decide)]; exact z) (fun x hx _ => ?_)
      · rw [u, e3_up_ne (fun z => by have := z.2; omega), e3_up_ne (fun z => by have := z.2; omega)]
      · rw [u, e3_up_ne (fun z => by have := z.2; omega), e3_up_ne (fun z => by have := z.2; omega)]
    · show a_into σ3 p last q 51 p = q ∧ a_into σ3 p last q 52 q = -4
      rw [u, e3_up_ne (ne_1 (by decide)), e3_up_self, e3_up_ne (ne_1 (by decide)), e3_up_ne (ne_1 (by decide))]
      exact ⟨rfl, h52⟩
  · have u : a_into σ3 p last q = e3_up (e3_up σ3 52 last q) 55 p (a_mul (σ3 55 p) (σ3 55 q) (σ3 46 p)) := by
      unfold a_into a_mul
      rw [if_neg (by omega)]
    have k1 : ∀ a x : Int, a ≠ 52 → x ≠ p → a_into σ3 p last q a x = σ3 a x := fun a x ha hx => by
      rw [u, e3_up_ne (fun z => hx z.2), e3_up_ne (ne_1 ha)]
    have k2 : ∀ x : Int, x ≠ last → a_into σ3 p last q 52 x = σ3 52 x := fun x hx => by
      rw [u, e3_up_ne (ne_1 (by decide)), e3_up_ne (fun z => hx z.2)]
    subst l0
    refine ⟨fun c hc => ?_, ⟨by omega, by rw [e16]; exact hq2, fun w hcw => ?_⟩, ?_⟩
    · have hc' : (p < c ∧ c < q ∧ c ≤ last) ∧ ∃ hi, (hi = last ∧ c < last ∨ hi = q ∧ c = last) ∧ ∀ w : Nat, C c w = true → nv σ k hi c w := by
        rcases List.mem_append.mp hc with hm | hm
        · obtain ⟨m1, m2, m3⟩ := l1 c hm
          exact ⟨⟨m1, by omega, by omega⟩, last, Or.inl ⟨rfl, m2⟩, m3⟩
        · have hm := List.mem_singleton.mp hm
          rw [hm]
          exact ⟨⟨l2, by omega, by omega⟩, q, Or.inr ⟨rfl, rfl⟩, by rw [hq]; exact l4⟩
      obtain ⟨⟨d1, d2, d3⟩, hi, d4, d5⟩ := hc'
      refine ⟨d1, d2, fun w hcw => ?_⟩
      have hcw : (if c = q then Cq w else C c w) = true := hcw
      rw [if_neg (by omega)] at hcw
      refine nv_mono k hi q c (nv_keep k hi c (d5 w hcw) (by omega) (fun a x ha hx hx2 => ?_) (fun x hx hx2 z => ?_) (fun x hx hx2 => ?_)) (by omega)
      · rw [k1 a x (by omega) (by omega)]
        exact hfr a x (by omega) (by omega) (by omega)
      · rw [k1 54 x (by decide) (by omega), hfr 54 x (by decide) (by decide) (by omega)]
        exact z
      · rw [k2 x (by omega)]
        exact hfr 52 x (by decide) (by decide) (by omega)
    · have hcw : (if q = q then Cq w else C q w) = true := hcw
      rw [if_pos rfl] at hcw
      rw [e16]
      exact nv_keep k _ q (hw w hcw) hq2 (fun a x ha hx _ => k1 a x (by omega) (by omega)) (fun x hx _ z => by rw [k1 54 x (by decide) (by omega)]; exact z) (fun x hx _ => k2 x (by omega))
    · have e51 : a_into σ3 p last q 51 p = σ 51 p := by
        rw [u, e3_up_ne (ne_1 (by decide)), e3_up_ne (ne_1 (by decide))]
        exact hfr 51 p (by decide) (by decide) hp
      rw [e51]
      refine ach_snoc L0 _ l5 (fun y hy => ?_) ?_ ?_
      · have := (l1 y hy).2.1
        rw [k2 y (by omega)]
        exact hfr 52 y (by decide) (by decide) (by omega)
      · rw [u, e3_up_ne (ne_1 (by decide)), e3_up_self]
      · rw [k2 q (by omega)]
        exact h52
theorem a_unl_s {σ : e3_H} {b0 fst : Int} {srt : Nat → Int} : ∀ k : Nat, a_unl σ b0 fst srt k = false → ∀ w : Nat, w < k → b_bit (σ 40 31) w = true → b_bit b0 w = false → srt w = σ 58 (8 * σ 40 27 + w) := by
  intro k
  induction k with
  | zero => intro _ w hw; omega
  | succ k ih =>
    intro h w hw h1 h2
    unfold a_unl at h
    rw [Bool.or_eq_false_iff] at h
    by_cases hz : w = k
    · subst hz
      have h3 := h.2
      rw [h1, h2, Bool.true_and, Bool.not_false, Bool.true_and] at h3
      have := of_decide_eq_false h3
      exact Classical.byContradiction (fun z => this z)
    · exact ih h.1 w (by omega) h1 h2
section NN2
variable {n m : Nat} {t : Int → Int} {r : Int}
theorem nn_kids {k : Nat} {g : Int → Nat → e3_H → a_R} {p kd : Int} {σS : e3_H} (hg : ∀ s i σ j σ2 q, g s i σ = .inr (j, σ2, q) → p_inv σ m i → σ 40 16 ≤ (i : Int) → 0 ≤ s → s < 3 + m → a_pok m i σ j σ2 q) (hg2 : ∀ s i σ j σ2 q, g s i σ = .inr (j, σ2, q) → p_inv σ m i → σ 40 16 ≤ (i : Int) → 0 ≤ s → s < 3 + m → σ 40 27 = r → nm_inv r m σ → nm_inv r m σ2 ∧ nm_post r σ σ2) (hgn : ∀ s i σ j σ2 q, g s i σ = .inr (j, σ2, q) → p_inv σ m i → σ 40 16 ≤ (i : Int) → 0 ≤ s → s < 3 + m → σ 40 27 = r → nm_inv r m σ → (NB r σ σ2 ∧ ∀ w : Nat, w < 8 → b_bit (σ2 40 31) w = true → b_bit (σ 40 31) w = true ∨ nv σ2 k (σ2 40 16) q w) ∧ σ2 52 q = -4) (hk : 0 ≤ kd ∧ kd < m) :
    ∀ (rem jj : Nat) (last : Int) (i : Nat) (σ : e3_H) (j : Nat) (σ2 : e3_H) (p2 : Int), a_kids t n g p kd rem jj last i σ = .inr (j, σ2, p2) → p_inv σ m i → σ 40 16 ≤ (i : Int) → 0 ≤ p → p < σ 40 16 → (jj + rem : Int) ≤ σ 44 kd → σ 40 27 = r → nm_inv r m σ → NB r σS σ → nm_post r σS σ → ∀ (L : List Int) (C : Int → Nat → Bool), kJ σ k p last L C → (∀ w : Nat, w < 8 → b_bit (σ 40 31) w = true → b_bit (σS 40 31) w = true ∨ ∃ c, c ∈ L ∧ C c w = true) → NB r σS σ2 ∧ ∃ (last2 : Int) (L2 : List Int) (C2 : Int → Nat → Bool), L2 ≠ [] ∧ kJ σ2 k p last2 L2 C2 ∧ ∀ w : Nat, w < 8 → b_bit (σ2 40 31) w = true → b_bit (σS 40 31) w = true ∨ ∃ c, c ∈ L2 ∧ C2 c w = true := by
  intro rem
  induction rem with
  | zero => intro jj last i σ j σ2 p2 h; cases h
  | succ rem ih =>
    intro jj last i σ j σ2 p2 h hp hs h0 h1 hr h27 hn hNB hpo L C hJ hcv
    unfold a_kids at h
    split at h
    · cases h
    · rename_i i2 σ3 q hq
      have hso := a_sort_in (jj := jj) hp hk (by omega)
      obtain ⟨b1, b2, b3, b4, b5, b6⟩ := hg _ _ _ _ _ _ hq hp hs hso.1 hso.2
      have n1 := hg2 _ _ _ _ _ _ hq hp hs hso.1 hso.2 h27 hn
      obtain ⟨⟨w1, w2⟩, w3⟩ := hgn _ _ _ _ _ _ hq hp hs hso.1 hso.2 h27 hn
      have n2 := nm_into (into := p) (last := last) (q := q) n1.1
      have pin : p_inv (a_into σ3 p last q) m i2 := p_into b5 (by omega) (by have := hp.2.1.1; omega)
      have e16 : a_into σ3 p last q 40 16 = σ3 40 16 := a_into_at 40 16 (by omega) (by omega) (by omega)
      have e31 : a_into σ3 p last q 40 31 = σ3 40 31 := a_into_at 40 31 (by omega) (by omega) (by omega)
      have e27 : a_into σ3 p last q 40 27 = r := by rw [a_into_at 40 27 (by omega) (by omega) (by omega), b6.2.1 27 (by omega) (by omega)]; exact h27
      have N3 := NB_tr hNB w1 (fun a x ha hx => b6.2.2.2.1 a x (by omega) (by omega) hx) hpo n1.2
      have N4 : NB r σS (a_into σ3 p last q) := NB_eq N3 (fun a x ha => a_into_at a x (by omega) (by omega) (by omega)) e16 e31
      have P4 : nm_post r σS (a_into σ3 p last q) := np_tr hpo (np_tr n1.2 n2.2)
      have J4 := kJ_into (Cq := fun w => decide (w < 8) && (b_bit (σ3 40 31) w && !(b_bit (σ 40 31) w))) hJ h0 h1 b2 (by omega) (fun a x z1 z2 z3 => b6.2.2.2.1 a x z1 z2 z3) (fun w hw => by
        rw [Bool.and_eq_true, Bool.and_eq_true, decide_eq_true_eq, Bool.not_eq_true'] at hw
        rcases w2 w hw.1 hw.2.1 with z | z
        · rw [hw.2.2] at z; cases z
        · exact z) w3
      have V4 : ∀ w : Nat, w < 8 → b_bit (a_into σ3 p last q 40 31) w = true → b_bit (σS 40 31) w = true ∨ ∃ c, c ∈ L ++ [q] ∧ (if c = q then (decide (w < 8) && (b_bit (σ3 40 31) w && !(b_bit (σ 40 31) w))) else C c w) = true := fun w hw hb => by
        rw [e31] at hb
        cases hz : b_bit (σ 40 31) w with
        | true =>
          rcases hcv w hw hz with y | ⟨c, c1, c2⟩
          · exact Or.inl y
          · have hc := (kJ_lt hJ c c1).2
            exact Or.inr ⟨c, List.mem_append_left _ c1, by rw [if_neg (by omega)]; exact c2⟩
        | false => exact Or.inr ⟨q, List.mem_append_right _ (List.mem_singleton.mpr rfl), by rw [if_pos rfl, hb, decide_eq_true hw]; rfl⟩
      split at h
      · split at h
        · cases h
          exact ⟨N4, q, L ++ [q], _, by simp, J4, V4⟩
        · cases h
      · split at h
        · have e44 : a_into σ3 p last q 44 kd = σ 44 kd := by
            rw [a_into_at 44 kd (by omega) (by omega) (by omega), b6.2.2.1 44 (by omega) (by omega)]
          exact ih (jj + 1) q (i2 + 1) (a_into σ3 p last q) j σ2 p2 h (p_inv_le pin (by omega)) (by rw [e16]; omega) h0 (by rw [e16]; omega) (by rw [e44]; omega) e27 n2.1 N4 P4 _ _ J4 V4
        · cases h
theorem nn_alts {k : Nat} {g : Bool → Nat → e3_H → a_R} {p pl b0 : Int} {σS : e3_H} (hg : ∀ mu i σ j σ2 q, g mu i σ = .inr (j, σ2, q) → p_inv σ m i → σ 40 16 ≤ (i : Int) → a_pok m i σ j σ2 q) (hg2 : ∀ mu i σ j σ2 q, g mu i σ = .inr (j, σ2, q) → p_inv σ m i → σ 40 16 ≤ (i : Int) → σ 40 27 = r → nm_inv r m σ → nm_inv r m σ2 ∧ nm_post r σ σ2) (hgn : ∀ mu i σ j σ2 q, g mu i σ = .inr (j, σ2, q) → p_inv σ m i → σ 40 16 ≤ (i : Int) → σ 40 27 = r → nm_inv r m σ → (NB r σ σ2 ∧ ∀ w : Nat, w < 8 → b_bit (σ2 40 31) w = true → b_bit (σ 40 31) w = true ∨ nv σ2 k (σ2 40 16) q w) ∧ σ2 52 q = -4) (hb0 : 0 ≤ b0 ∧ b0 < 256) (hB : σS 40 31 = b0) :
    ∀ (rem jj : Nat) (last fst : Int) (srt : Nat → Int) (un : Bool) (i : Nat) (σ : e3_H) (j : Nat) (σ2 : e3_H) (p2 : Int), a_alts t n g p pl b0 rem jj last fst srt un i σ = .inr (j, σ2, p2) → p_inv σ m i → σ 40 16 ≤ (i : Int) → 0 ≤ p → p < σ 40 16 → σ 40 27 = r → σ 40 31 = b0 → nm_inv r m σ → (jj = 0 → σ 40 16 = σS 40 16) → (jj ≠ 0 → un = false → ∀ a x : Int, a = 53 ∨ a = 54 → σS 40 16 ≤ x → x < σ 40 16 → 0 ≤ σ a x → ∃ w : Nat, w < 8 ∧ σ a x = (w : Int) ∧ b_bit b0 w = false ∧ b_bit fst w = true ∧ srt w = σ 47 x) → ∀ (L : List Int) (C : Int → Nat → Bool), kJ σ k p last L C → (jj = 0 → L = []) → (jj ≠ 0 → un = false → ∀ w : Nat, w < 8 → b_bit fst w = true → b_bit b0 w = true ∨ ∀ c, c ∈ L → C c w = true) → NB r σS σ2 ∧ ∃ (last2 : Int) (L2 : List Int) (C2 : Int → Nat → Bool), L2 ≠ [] ∧ kJ σ2 k p last2 L2 C2 ∧ ∀ w : Nat, w < 8 → b_bit (σ2 40 31) w = true → b_bit (σS 40 31) w = true ∨ ∀ c, c ∈ L2 → C2 c w = true := by
  intro rem
  induction rem with
  | zero => intro jj last fst srt un i σ j σ2 p2 h; cases h
  | succ rem ih =>
    intro jj last fst srt un i σ j σ2 p2 h hp hs h0 h1 h27 h31 hA hst hAR L C hJ hL0 hcv
    have hq : ∃ i2 σ3 q, g (decide (jj = 6)) i σ = .inr (i2, σ3, q) := by
      cases hz : g (decide (jj = 6)) i σ with
      | inl q => unfold a_alts at h; rw [hz] at h; cases h
      | inr y => exact ⟨y.1, y.2.1, y.2.2, rfl⟩
    obtain ⟨i2, σ3, q, hq⟩ := hq
    rw [a_alts_eq hq] at h
    obtain ⟨b1, b2, b3, b4, b5, b6⟩ := hg _ _ _ _ _ _ hq hp hs
    have n1 := hg2 _ _ _ _ _ _ hq hp hs h27 hA
    obtain ⟨⟨w1, w2⟩, w3⟩ := hgn _ _ _ _ _ _ hq hp hs h27 hA
    have n2 := nm_into (into := p) (last := last) (q := q) n1.1
    have n3 := np_tr n1.2 n2.2
    have pin : p_inv (a_into σ3 p last q) m i2 := p_into b5 (by omega) (by have := hp.2.1.1; omega)
    have e16 : a_into σ3 p last q 40 16 = σ3 40 16 := a_into_at 40 16 (by omega) (by omega) (by omega)
    have e27 : a_into σ3 p last q 40 27 = r := by rw [a_into_at 40 27 (by omega) (by omega) (by omega), b6.2.1 27 (by omega) (by omega)]; exact h27
    have J4 := kJ_into (Cq := fun w => decide (w < 8) && (b_bit (σ3 40 31) w && !(b_bit b0 w))) hJ h0 h1 b2 (by omega) (fun a x z1 z2 z3 => b6.2.2.2.1 a x z1 z2 z3) (fun w hw => by
      rw [Bool.and_eq_true, Bool.and_eq_true, decide_eq_true_eq, Bool.not_eq_true'] at hw
      rcases w2 w hw.1 hw.2.1 with z | z
      · rw [h31, hw.2.2] at z; cases z
      · exact z) w3
    have N4 : NB r σ (a_into σ3 p last q) := NB_eq w1 (fun a x ha => a_into_at a x (by omega) (by omega) (by omega)) e16 (a_into_at 40 31 (by omega) (by omega) (by omega))
    have fr4 : ∀ a x : Int, a = 47 ∨ a = 53 ∨ a = 54 → x < σ 40 16 → a_into σ3 p last q a x = σ a x := fun a x ha hx => by rw [a_into_at a x (by omega) (by omega) (by omega)]; exact b6.2.2.2.1 a x (by omega) (by omega) hx
    have e31 : a_into σ3 p last q 40 31 = σ3 40 31 := a_into_at 40 31 (by omega) (by omega) (by omega)
    rw [← e31] at J4
    have hlq : ∀ c, c ∈ L → c ≠ q := fun c hc => by have := (kJ_lt hJ c hc).2; omega
    generalize a_into σ3 p last q = τ at *
    -- NAMES of all alternatives so far, and what each notes
    have hAR' : a_un ((jj : Int) + 1) τ b0 fst srt un = false → ∀ a x : Int, a = 53 ∨ a = 54 → σS 40 16 ≤ x → x < τ 40 16 → 0 ≤ τ a x → ∃ w : Nat, w < 8 ∧ τ a x = (w : Int) ∧ b_bit b0 w = false ∧ b_bit (a_fst ((jj : Int) + 1) τ fst) w = true ∧ a_sr ((jj : Int) + 1) τ srt w = τ 47 x := by
      intro hu a x ha x0 x1 z
      unfold a_un at hu
      unfold a_fst a_sr
      by_cases c : jj = 0
      · have c2 : (jj : Int) + 1 = 1 := by omega
        rw [if_pos c2, if_pos c2]
        have hst' := hst c
        obtain ⟨w, v1, v2, v3, v4, v5⟩ := N4 a x ha (by omega) x1 z
        rw [h31] at v3
        exact ⟨w, v1, v2, v3, v4, by rw [e27]; exact v5⟩
      · have c2 : ¬ (jj : Int) + 1 = 1 := by omega
        rw [if_neg c2] at hu ⊢
        rw [if_neg c2]
        rw [Bool.or_eq_false_iff] at hu
        by_cases hx : x < σ 40 16
        · rw [fr4 a x (by omega) hx] at z ⊢
          rw [fr4 47 x (by decide) hx]
          exact hAR c hu.1 a x ha x0 hx z
        · obtain ⟨w, v1, v2, v3, v4, v5⟩ := N4 a x ha (by omega) x1 z
          rw [h31] at v3
          have s1 := a_unl_s 8 hu.2 w v1 v4 v3
          rw [a_unl_f 8 hu.2] at v4
          rw [e27] at s1
          exact ⟨w, v1, v2, v3, v4, by rw [s1]; exact v5⟩
    have hcv' : a_un ((jj : Int) + 1) τ b0 fst srt un = false → ∀ w : Nat, w < 8 → b_bit (a_fst ((jj : Int) + 1) τ fst) w = true → b_bit b0 w = true ∨ ∀ c, c ∈ L ++ [q] → (if c = q then (decide (w < 8) && (b_bit (τ 40 31) w && !(b_bit b0 w))) else C c w) = true := by
      intro hu w hw hb
      unfold a_un at hu
      unfold a_fst at hb
      by_cases c : jj = 0
      · have c2 : (jj : Int) + 1 = 1 := by omega
        rw [if_pos c2] at hb
        cases hz : b_bit b0 w with
        | true => exact Or.inl rfl
        | false =>
          refine Or.inr (fun c' hc' => ?_)
          rw [hL0 c] at hc'
          have hc' : c' ∈ [q] := hc'
          rw [List.mem_singleton.mp hc', if_pos rfl, hb, decide_eq_true hw]
          rfl
      · have c2 : ¬ (jj : Int) + 1 = 1 := by omega
        rw [if_neg c2] at hu hb
        rw [Bool.or_eq_false_iff] at hu
        have ef := a_unl_f 8 hu.2
        rcases hcv c hu.1 w hw hb with y | y
        · exact Or.inl y
        · cases hz : b_bit b0 w with
          | true => exact Or.inl rfl
          | false =>
            refine Or.inr (fun c' hc' => ?_)
            rcases List.mem_append.mp hc' with hm | hm
            · rw [if_neg (hlq c' hm)]; exact y c' hm
            · rw [List.mem_singleton.mp hm, if_pos rfl, ef, hb, decide_eq_true hw]
              rfl
    split at h
    · refine ih (jj + 1) q _ _ _ (i2 + 1) _ j σ2 p2 h (p_inv_le (p_up31 pin hb0) (by omega)) (by simp (disch := omega) only [e3_up_self, e3_up_ne]; rw [e16]; omega) h0 (by simp (disch := omega) only [e3_up_self, e3_up_ne]; rw [e16]; omega) (by simp (disch := omega) only [e3_up_self, e3_up_ne]; exact e27) (by simp (disch := omega) only [e3_up_self, e3_up_ne]) ?_ (fun hz => by omega) (fun _ hu a x ha x0 x1 z => ?_) _ _ (kJ_keep J4 (fun a x ha => e3_up_ne (ne_1 (by omega))) (e3_up_ne (fun z => absurd z.2 (by decide)))) (fun hz => by omega) (fun _ hu => hcv' hu)
      · refine ⟨fun w hw hb => ?_, fun w hw => ?_⟩
        · rw [e3_up_self] at hb
          simp (disch := omega) only [e3_up_self, e3_up_ne]
          have := hA.1 w hw (by rw [h31]; exact hb)
          have := n3.2.2.2
          omega
        · have hw' : (w : Int) < τ 56 r := by rw [e3_up_ne (by omega)] at hw; exact hw
          simp (disch := omega) only [e3_up_self, e3_up_ne]
          exact n2.1.2 w hw'
      · have x1 : x < τ 40 16 := by rw [e3_up_ne (fun z => absurd z.2 (by decide))] at x1; exact x1
        rw [e3_up_ne (ne_1 (by omega))] at z ⊢
        rw [e3_up_ne (ne_1 (by decide))]
        exact hAR' hu a x ha x0 x1 z
    · split at h
      · by_cases hun : a_un ((jj : Int) + 1) τ b0 fst srt un = true
        · rw [if_pos hun] at h; cases h
        · rw [if_neg hun] at h
          cases h
          have hu : a_un ((jj : Int) + 1) τ b0 fst srt un = false := by
            cases hz : a_un ((jj : Int) + 1) τ b0 fst srt un with
            | false => rfl
            | true => exact absurd hz hun
          have A' := hAR' hu
          have V' := hcv' hu
          generalize a_fst ((jj : Int) + 1) τ fst = fst' at *
          generalize a_sr ((jj : Int) + 1) τ srt = srt' at *
          have q31 : a_srt (e3_up τ 40 31 fst') srt' 8 40 31 = fst' := by rw [a_srt_at 8 40 31 (by omega)]; simp (disch := omega) only [e3_up_self, e3_up_ne]
          have qo : ∀ a x : Int, a ≠ 40 → a ≠ 58 → a_srt (e3_up τ 40 31 fst') srt' 8 a x = τ a x := fun a x z1 z2 => by rw [a_srt_at 8 a x z2, e3_up_ne (ne_1 z1)]
          have q16 : a_srt (e3_up τ 40 31 fst') srt' 8 40 16 = τ 40 16 := by rw [a_srt_at 8 40 16 (by omega), e3_up_ne (fun z => absurd z.2 (by decide))]
          have q58 : ∀ w : Nat, w < 8 → a_srt (e3_up τ 40 31 fst') srt' 8 58 (8 * r + w) = srt' w := by
            intro w hw
            have := a_srt_58 (σ := e3_up τ 40 31 fst') (srt := srt') 8 w hw
            rw [show (e3_up τ 40 31 fst') 40 27 = r by simp (disch := omega) only [e3_up_self, e3_up_ne]; exact e27] at this
            exact this
          refine ⟨fun a x ha x0 x1 z => ?_, q, L ++ [q], _, by simp, kJ_keep J4 (fun a x ha => qo a x (by omega) (by omega)) q16, fun w hw hb => ?_⟩
          · rw [q16] at x1
            rw [qo a x (by omega) (by omega)] at z ⊢
            obtain ⟨w, v1, v2, v3, v4, v5⟩ := A' a x ha x0 x1 z
            exact ⟨w, v1, v2, by rw [hB]; exact v3, by rw [q31]; exact v4, by rw [q58 w v1, qo 47 x (by decide) (by decide)]; exact v5⟩
          · rw [q31] at hb
            rw [hB]
            exact V' w hw hb
      · cases h
end NN2
