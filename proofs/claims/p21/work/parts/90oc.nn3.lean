section NN3
variable {n m : Nat} {t : Int → Int} {r : Int}
/-- NAMES of a pattern that was read -/
theorem nn_pat : ∀ (f : Nat) (s : Int) (d : Nat) (mu : Bool) (i : Nat) (σ : e3_H) (j : Nat) (σ2 : e3_H) (p : Int), a_pat t n f s d mu i σ = .inr (j, σ2, p) → p_inv σ m i → σ 40 16 ≤ (i : Int) → 0 ≤ s → s < 3 + m → σ 40 27 = r → nm_inv r m σ → ∀ k : Nat, d + k = 6 → NB r σ σ2 ∧ ∀ w : Nat, w < 8 → b_bit (σ2 40 31) w = true → b_bit (σ 40 31) w = true ∨ nv σ2 k (σ2 40 16) p w := by
  intro f
  induction f with
  | zero => intro s d mu i σ j σ2 p h; cases h
  | succ f ih =>
    intro s d mu i σ j σ2 p h hp hst hs0 hs1 h27 hn k hk
    rw [a_pat_beg] at h
    split at h
    · cases h
    · rename_i j1 σ1 op hb
      obtain ⟨b1, b2, b3, b4, b5, b6, b7, b8, b9, b10⟩ := a_beg_ok hb hp hst
      have n1 := nm_beg hb hp hst h27 hn ⟨hs0, hs1⟩
      obtain ⟨v1, v2, v3⟩ := nn_beg hb hp hst h27 hn ⟨hs0, hs1⟩
      obtain ⟨bm, bo⟩ := beg_46 hb
      have hp0 := hp.2.1.1
      have e27 : σ1 40 27 = r := by rw [b4.2.1 27 (by omega) (by omega)]; exact h27
      have hd : d < 6 := by
        by_cases hd : 6 ≤ d
        · rw [decide_eq_true hd, Bool.or_true] at bm; cases bm
        · omega
      obtain ⟨k', rfl⟩ : ∃ k', k = k' + 1 := ⟨k - 1, by omega⟩
      by_cases ho : op = true
      · rw [if_pos ho] at h
        have hr : ∃ j3 σ3 p3, a_rest t n f s d i σ j1 σ1 = .inr (j3, σ3, p3) := by
          cases hz : a_rest t n f s d i σ j1 σ1 with
          | inl q => rw [hz] at h; cases h
          | inr y => exact ⟨y.1, y.2.1, y.2.2, rfl⟩
        obtain ⟨j3, σ3, p3, hr⟩ := hr
        rw [hr] at h
        have e31 : σ1 40 31 = σ 40 31 := (b10 ho).1
        have N0 : NB r σ1 σ1 := fun a x _ x0 x1 => by omega
        have P0 : nm_post r σ1 σ1 := ⟨fun _ _ hb => hb, fun w hw h1 h2 => by omega, fun _ _ _ => rfl, Int.le_refl _⟩
        have J0 : kJ σ1 k' (σ 40 16) (-4) [] (fun _ _ => false) := Or.inl ⟨rfl, rfl⟩
        have hk : a_kok m (σ 40 16) j1 σ1 j3 σ3 p3 ∧ (nm_inv r m σ3 ∧ nm_post r σ1 σ3) ∧ (∀ a : Int, 46 ≤ a → a ≤ 55 → a ≠ 51 → a ≠ 55 → σ3 a (σ 40 16) = σ1 a (σ 40 16)) ∧ NB r σ1 σ3 ∧ ∀ w : Nat, w < 8 → b_bit (σ3 40 31) w = true → b_bit (σ1 40 31) w = true ∨ nv σ3 (k' + 1) (σ3 40 16) (σ 40 16) w := by
          unfold a_rest at hr
          rcases (b10 ho).2 with ⟨c1, c2, c3, c4, c5, c6⟩ | ⟨c1, c2⟩
          · rw [if_pos c1] at hr
            have e44 : σ1 44 = σ 44 := b4.2.2.1 44 (by omega) (by omega)
            have h44 := (hp.1.2.2.2.2 (a_fd (σ 42) (x_wo t n i) (a_nk σ)).toNat (by omega)).1
            rw [Int.toNat_of_nonneg c4] at h44
            have hcnt : ((0 : Nat) + (σ 44 (a_fd (σ 42) (x_wo t n i) (a_nk σ))).toNat : Int) ≤ σ1 44 (a_fd (σ 42) (x_wo t n i) (a_nk σ)) := by rw [e44, Int.toNat_of_nonneg h44]; omega
            have hgk : ∀ s2 i2 σ2 j2 σ4 q, (fun s2 i2 σ2 => a_pat t n f s2 (d + 1) false i2 σ2) s2 i2 σ2 = .inr (j2, σ4, q) → p_inv σ2 m i2 → σ2 40 16 ≤ (i2 : Int) → 0 ≤ s2 → s2 < 3 + m → a_pok m i2 σ2 j2 σ4 q := fun s2 i2 σ2 j2 σ4 q hq g1 g2 _ _ => a_pat_ok f s2 (d + 1) false i2 σ2 j2 σ4 q hq g1 g2
            have hgm : ∀ s2 i2 σ2 j2 σ4 q, (fun s2 i2 σ2 => a_pat t n f s2 (d + 1) false i2 σ2) s2 i2 σ2 = .inr (j2, σ4, q) → p_inv σ2 m i2 → σ2 40 16 ≤ (i2 : Int) → 0 ≤ s2 → s2 < 3 + m → σ2 40 27 = r → nm_inv r m σ2 → nm_inv r m σ4 ∧ nm_post r σ2 σ4 := fun s2 i2 σ2 j2 σ4 q hq g1 g2 g3 g4 g5 g6 => nm_pat f s2 (d + 1) false i2 σ2 j2 σ4 q hq g1 g2 g3 g4 g5 g6
            have own := own_kids (m := m) hgk ⟨c4, c5⟩ _ _ _ _ _ _ _ _ hr b3 (by omega) hp0 (by omega) (Or.inl rfl) hcnt
            obtain ⟨x1, last2, L2, C2, x2, x3, x4⟩ := nn_kids (m := m) (σS := σ1) (k := k') hgk hgm (fun s2 i2 σ2 j2 σ4 q hq g1 g2 g3 g4 g5 g6 => ⟨ih s2 (d + 1) false i2 σ2 j2 σ4 q hq g1 g2 g3 g4 g5 g6 k' (by omega), (wt_pat f s2 (d + 1) false i2 σ2 j2 σ4 q hq g1 g2 g3 k' (by omega)).2.1⟩) ⟨c4, c5⟩ _ _ _ _ _ _ _ _ hr b3 (by omega) hp0 (by omega) hcnt e27 n1.1 N0 P0 [] (fun _ _ => false) J0 (fun w _ hb => Or.inl hb)
            obtain ⟨y1, y2⟩ := kJ_end x3 x2
            refine ⟨a_kids_ok (m := m) hgk ⟨c4, c5⟩ _ _ _ _ _ _ _ _ hr b3 (by omega) hp0 (by omega) (Or.inl rfl) hcnt, nm_kids (m := m) hgk hgm ⟨c4, c5⟩ _ _ _ _ _ _ _ _ hr b3 (by omega) hp0 (by omega) (Or.inl rfl) hcnt e27 n1.1, own, x1, fun w hw hb => ?_⟩
            rcases x4 w hw hb with z | ⟨c, z1, z2⟩
            · exact Or.inl z
            · exact Or.inr (Or.inr (Or.inr ⟨L2, y1, fun c hc => (y2 c hc).1, Or.inr ⟨by rw [own 46 (by decide) (by decide) (by decide) (by decide), c2]; decide, c, z1, (y2 c z1).2 w z2⟩⟩))
          · rw [if_neg (by omega)] at hr
            have h31 := hp.2.2.2.2.1
            have hga : ∀ mu2 i2 σ2 j2 σ4 q, (fun mu2 i2 σ2 => a_pat t n f s (d + 1) mu2 i2 σ2) mu2 i2 σ2 = .inr (j2, σ4, q) → p_inv σ2 m i2 → σ2 40 16 ≤ (i2 : Int) → a_pok m i2 σ2 j2 σ4 q := fun mu2 i2 σ2 j2 σ4 q hq g1 g2 => a_pat_ok f s (d + 1) mu2 i2 σ2 j2 σ4 q hq g1 g2
            have hgm : ∀ mu2 i2 σ2 j2 σ4 q, (fun mu2 i2 σ2 => a_pat t n f s (d + 1) mu2 i2 σ2) mu2 i2 σ2 = .inr (j2, σ4, q) → p_inv σ2 m i2 → σ2 40 16 ≤ (i2 : Int) → σ2 40 27 = r → nm_inv r m σ2 → nm_inv r m σ4 ∧ nm_post r σ2 σ4 := fun mu2 i2 σ2 j2 σ4 q hq g1 g2 g5 g6 => nm_pat f s (d + 1) mu2 i2 σ2 j2 σ4 q hq g1 g2 hs0 hs1 g5 g6
            have own := own_alts (m := m) hga h31 _ _ _ _ _ _ _ _ _ _ _ hr b3 (by omega) hp0 (by omega) (Or.inl rfl)
            obtain ⟨x1, last2, L2, C2, x2, x3, x4⟩ := nn_alts (m := m) (σS := σ1) (k := k') hga hgm (fun mu2 i2 σ2 j2 σ4 q hq g1 g2 g5 g6 => ⟨ih s (d + 1) mu2 i2 σ2 j2 σ4 q hq g1 g2 hs0 hs1 g5 g6 k' (by omega), (wt_pat f s (d + 1) mu2 i2 σ2 j2 σ4 q hq g1 g2 hs0 k' (by omega)).2.1⟩) h31 (b10 ho).1 _ _ _ _ _ _ _ _ _ _ _ hr b3 (by omega) hp0 (by omega) e27 (b10 ho).1 n1.1 (fun _ => rfl) (fun hz => absurd rfl hz) [] (fun _ _ => false) J0 (fun _ => rfl) (fun hz => absurd rfl hz)
            obtain ⟨y1, y2⟩ := kJ_end x3 x2
            refine ⟨a_alts_ok (m := m) h31 hga _ _ _ _ _ _ _ _ _ _ _ hr (by omega) b3 (by omega) hp0 (by omega) (Or.inl rfl), nm_alts (m := m) (σB := σ1) hga hgm h31 (b10 ho).1 _ _ _ _ _ _ _ _ _ _ _ hr b3 (by omega) hp0 (by omega) e27 (b10 ho).1 n1.1 (fun _ _ _ => rfl) (by omega) (fun _ => rfl) (fun hz => absurd rfl hz), own, x1, fun w hw hb => ?_⟩
            rcases x4 w hw hb with z | z
            · exact Or.inl z
            · exact Or.inr (Or.inr (Or.inr ⟨L2, y1, fun c hc => (y2 c hc).1, Or.inl ⟨by rw [own 46 (by decide) (by decide) (by decide) (by decide)]; exact c2, fun c hc => (y2 c hc).2 w (z c hc)⟩⟩))
        obtain ⟨⟨k1, k2, k3, k4, k5, k6⟩, n2, own, N3, V3⟩ := hk
        have e27' : σ3 40 27 = r := by rw [k6.2.1 27 (by omega) (by omega)]; exact e27
        subst k2
        have e53 : σ3 53 (σ 40 16) = -4 := by rw [own 53 (by decide) (by decide) (by decide) (by decide)]; exact v3 ho
        have e54 : σ3 54 (σ 40 16) = -4 := by rw [own 54 (by decide) (by decide) (by decide) (by decide)]; exact b8
        have e47 : σ3 47 (σ 40 16) = s := by rw [own 47 (by decide) (by decide) (by decide) (by decide)]; exact b5
        refine nn_as (σ := σ) h k5 e27' n2.1 (by rw [e47]; omega) e54 ⟨Int.le_refl _, by omega⟩ (fun w hw hb => n2.2.1 w hw (by rw [e31]; exact hb)) (fun a x ha x0 x1 z => ?_) (fun w hw hb => ?_)
        · by_cases hx : x = σ 40 16
          · rw [hx] at z
            rcases ha with y | y
            · rw [y, e53] at z; omega
            · rw [y, e54] at z; omega
          · obtain ⟨w, q1, q2, q3, q4, q5⟩ := N3 a x ha (by omega) x1 z
            exact ⟨w, q1, q2, by rw [← e31]; exact q3, q4, q5⟩
        · rcases V3 w hw hb with z | z
          · exact Or.inl (by rw [← e31]; exact z)
          · exact Or.inr z
      · rw [if_neg ho] at h
        refine nn_as (σ := σ) h b3 e27 n1.1 (by rw [b5]; omega) b8 ⟨Int.le_refl _, by omega⟩ (fun w hw hb => n1.2.1 w hw hb) v1 (fun w hw hb => ?_)
        rcases v2 w hw hb with z | z
        · exact Or.inl z
        · exact Or.inr (Or.inl z)
end NN3
/-- the columns of a rule so far, with what each notes -/
def cJ (σ : e3_H) (lo : Int) (c : Nat) (r last : Int) (L : List Int) (C : Int → Nat → Bool) : Prop := (c = 0 ∧ L = []) ∨ ∃ L0 : List Int, L = L0 ++ [last] ∧ (∀ x, x ∈ L0 → lo ≤ x ∧ x < last ∧ ∀ w : Nat, C x w = true → nv σ 6 last x w) ∧ (lo ≤ last ∧ last < σ 40 16 ∧ ∀ w : Nat, C last w = true → nv σ 6 (σ 40 16) last w) ∧ ach σ (σ 72 r) (L0 ++ [last]) ∧ c ≠ 0
theorem cJ_lt {σ : e3_H} {lo r last : Int} {c : Nat} {L : List Int} {C : Int → Nat → Bool} (h : cJ σ lo c r last L C) : ∀ x, x ∈ L → lo ≤ x ∧ x < σ 40 16 := by
  intro x hx
  rcases h with ⟨_, y⟩ | ⟨L0, e, l1, ⟨l2, l3, _⟩, _⟩
  · rw [y] at hx; exact absurd hx (List.not_mem_nil)
  · rw [e] at hx
    rcases List.mem_append.mp hx with z | z
    · have := l1 x z
      exact ⟨this.1, by omega⟩
    · rw [List.mem_singleton.mp z]; exact ⟨l2, l3⟩
theorem cJ_col {σ σ3 : e3_H} {r lo last p : Int} {c : Nat} {L : List Int} {C : Int → Nat → Bool} {Cq : Nat → Bool} (h : cJ σ lo c r last L C) (h0 : 0 ≤ lo ∧ lo ≤ σ 40 16) (hp : p = σ 40 16) (hp2 : p < σ3 40 16) (h27 : σ3 40 27 = r) (e72 : σ3 72 = σ 72) (hfr : ∀ a x : Int, 46 ≤ a → a ≤ 55 → x < σ 40 16 → σ3 a x = σ a x) (hw : ∀ w : Nat, Cq w = true → nv σ3 6 (σ3 40 16) p w) (h52 : σ3 52 p = -4) : cJ (a_col1 σ3 c last p) lo (c + 1) r p (L ++ [p]) (fun x w => if x = p then Cq w else C x w) := by
  refine Or.inr ⟨L, rfl, ?_⟩
  rcases h with ⟨l1, l2⟩ | ⟨L0, l0, l1, ⟨l2, l3, l4⟩, l5, l6⟩
  · have u : ∀ a x : Int, a ≠ 72 → a ≠ 74 → a_col1 σ3 c last p a x = σ3 a x := fun a x h1 h2 => by
      unfold a_col1 a_mulr
      rw [if_pos l1, e3_up_ne (ne_1 h2), e3_up_ne (ne_1 h1)]
    have u72 : a_col1 σ3 c last p 72 r = p := by
      unfold a_col1 a_mulr
      rw [if_pos l1, e3_up_ne (ne_1 (by decide)), h27, e3_up_self]
    subst l2
    refine ⟨fun x hx => absurd hx (List.not_mem_nil), ⟨by omega, by rw [u 40 16 (by decide) (by decide)]; exact hp2, fun w hcw => ?_⟩, ?_, by omega⟩
    · have hcw : (if p = p then Cq w else C p w) = true := hcw
      rw [if_pos rfl] at hcw
      rw [u 40 16 (by decide) (by decide)]
      exact nv_keep 6 _ p (hw w hcw) hp2 (fun a x ha _ _ => u a x (by omega) (by omega)) (fun x _ _ z => by rw [u 54 x (by decide) (by decide)]; exact z) (fun x _ _ => u 52 x (by decide) (by decide))
    · show a_col1 σ3 c last p 72 r = p ∧ a_col1 σ3 c last p 52 p = -4
      rw [u 52 p (by decide) (by decide)]
      exact ⟨u72, h52⟩
  · have k1 : ∀ a x : Int, a ≠ 52 → a ≠ 74 → a_col1 σ3 c last p a x = σ3 a x := fun a x h1 h2 => by
      unfold a_col1 a_mulr
      rw [if_neg l6, e3_up_ne (ne_1 h2), e3_up_ne (ne_1 h1)]
    have k2 : ∀ x : Int, x ≠ last → a_col1 σ3 c last p 52 x = σ3 52 x := fun x hx => by
      unfold a_col1 a_mulr
      rw [if_neg l6, e3_up_ne (ne_1 (by decide)), e3_up_ne (fun z => hx z.2)]
    have k3 : a_col1 σ3 c last p 52 last = p := by
      unfold a_col1 a_mulr
      rw [if_neg l6, e3_up_ne (ne_1 (by decide)), e3_up_self]
    have e16 := k1 40 16 (by decide) (by decide)
    subst l0
    refine ⟨fun x hx => ?_, ⟨by omega, by rw [e16]; exact hp2, fun w hcw => ?_⟩, ?_, by omega⟩
    · have hx' : (lo ≤ x ∧ x < p ∧ x ≤ last) ∧ ∃ hi, (hi = last ∧ x < last ∨ hi = p ∧ x = last) ∧ ∀ w : Nat, C x w = true → nv σ 6 hi x w := by
        rcases List.mem_append.mp hx with hm | hm
        · obtain ⟨m1, m2, m3⟩ := l1 x hm
          exact ⟨⟨m1, by omega, by omega⟩, last, Or.inl ⟨rfl, m2⟩, m3⟩
        · have hm := List.mem_singleton.mp hm
          rw [hm]
          exact ⟨⟨l2, by omega, by omega⟩, p, Or.inr ⟨rfl, rfl⟩, by rw [hp]; exact l4⟩
      obtain ⟨⟨d1, d2, d3⟩, hi, d4, d5⟩ := hx'
      refine ⟨d1, d2, fun w hcw => ?_⟩
      have hcw : (if x = p then Cq w else C x w) = true := hcw
      rw [if_neg (by omega)] at hcw
      refine nv_mono 6 hi p x (nv_keep 6 hi x (d5 w hcw) (by omega) (fun a y ha hy hy2 => ?_) (fun y hy hy2 z => ?_) (fun y hy hy2 => ?_)) (by omega)
      · rw [k1 a y (by omega) (by omega)]
        exact hfr a y (by omega) (by omega) (by omega)
      · rw [k1 54 y (by decide) (by decide), hfr 54 y (by decide) (by decide) (by omega)]
        exact z
      · rw [k2 y (by omega)]
        exact hfr 52 y (by decide) (by decide) (by omega)
    · have hcw : (if p = p then Cq w else C p w) = true := hcw
      rw [if_pos rfl] at hcw
      rw [e16]
      exact nv_keep 6 _ p (hw w hcw) hp2 (fun a x ha _ _ => k1 a x (by omega) (by omega)) (fun x _ _ z => by rw [k1 54 x (by decide) (by decide)]; exact z) (fun x hx _ => k2 x (by omega))
    · rw [k1 72 r (by decide) (by decide), e72]
      refine ach_snoc L0 _ l5 (fun y hy => ?_) k3 ?_
      · have := (l1 y hy).2.1
        rw [k2 y (by omega)]
        exact hfr 52 y (by decide) (by decide) (by omega)
      · rw [k2 p (by omega)]
        exact h52
/-- NAMES of a rule: each is noted on every way, with its SORT -/
def NNr (σ : e3_H) (r : Int) (cols : Nat) : Prop := ∃ lo hi : Int, (0 ≤ lo ∧ hi ≤ σ 40 16) ∧ wru σ r lo hi cols ∧ (∀ a x : Int, a = 53 ∨ a = 54 → lo ≤ x → x < hi → 0 ≤ σ a x → ∃ w : Nat, w < 8 ∧ σ a x = (w : Int) ∧ (w : Int) < σ 56 r ∧ σ 58 (8 * r + w) = σ 47 x) ∧ ∃ L, ach σ (σ 72 r) L ∧ (∀ c, c ∈ L → lo ≤ c ∧ c < hi) ∧ ∀ w : Nat, (w : Int) < σ 56 r → ∃ c, c ∈ L ∧ nv σ 6 hi c w
theorem NNr_keep {σ σ2 : e3_H} {r : Int} {cols : Nat} (h : NNr σ r cols) (h16 : σ 40 16 ≤ σ2 40 16) (e : ∀ a x : Int, 46 ≤ a → a ≤ 55 → x < σ 40 16 → σ2 a x = σ a x) (ek : e_k σ σ2) (e69 : ∀ i : Nat, i < cols → σ2 69 (3 * (r / 16) + i) = σ 69 (3 * (r / 16) + i)) (e72 : σ2 72 r = σ 72 r) (e74 : σ2 74 r = σ 74 r) (e56 : σ2 56 r = σ 56 r) (e58 : ∀ w : Nat, w < 8 → σ2 58 (8 * r + w) = σ 58 (8 * r + w)) : NNr σ2 r cols := by
  obtain ⟨lo, hi, ⟨h0, h1⟩, hW, hN, L, l1, l2, l3⟩ := h
  refine ⟨lo, hi, ⟨h0, by omega⟩, wru_keep hW (fun a x ha _ hx => e a x (by omega) (by omega) (by omega)) ek e69 e72 e74 (Int.le_refl _), fun a x ha x0 x1 z => ?_, L, ?_, l2, fun w hw => ?_⟩
  · rw [e a x (by omega) (by omega) (by omega)] at z ⊢
    obtain ⟨w, w1, w2, w3, w4⟩ := hN a x ha x0 x1 z
    exact ⟨w, w1, w2, by rw [e56]; exact w3, by rw [e58 w w1, e 47 x (by decide) (by decide) (by omega)]; exact w4⟩
  · rw [e72]
    exact ach_keep L _ l1 (fun c hc => e 52 c (by decide) (by decide) (by have := l2 c hc; omega))
  · rw [e56] at hw
    obtain ⟨c, c1, c2⟩ := l3 w hw
    refine ⟨c, c1, nv_keep 6 hi c c2 (l2 c c1).2 (fun a x ha _ hx => e a x (by omega) (by omega) (by omega)) (fun x _ hx z => by rw [e 54 x (by decide) (by decide) (by omega)]; exact z) (fun x _ hx => e 52 x (by decide) (by decide) (by omega))⟩
