theorem ach_ij {σ : e3_H} : ∀ (L M : List Int) (a : Int), (∀ c, c ∈ L → c ≠ -4) → (∀ c, c ∈ M → c ≠ -4) → ach σ a L → ach σ a M → L = M := by
  intro L
  induction L with
  | nil =>
    intro M a _ h2 e1 e2
    cases M with
    | nil => rfl
    | cons c l => exact absurd (e2.1.symm.trans e1) (h2 c (List.mem_cons_self ..))
  | cons d l ih =>
    intro M a h1 h2 e1 e2
    cases M with
    | nil => exact absurd (e1.1.symm.trans e2) (h1 d (List.mem_cons_self ..))
    | cons c m =>
      have hdc : d = c := e1.1.symm.trans e2.1
      subst hdc
      rw [ih m _ (fun y hy => h1 y (List.mem_cons_of_mem _ hy)) (fun y hy => h2 y (List.mem_cons_of_mem _ hy)) e1.2 e2.2]
/-- of an EITHER: what is noted under one of its patterns is noted on every way of each; all that is under q lies in [q, e) -/
def sn (σ : e3_H) : Nat → Int → Int → Prop
  | 0, _, _ => False
  | k + 1, q, e => q < e ∧ ∃ L : List Int, ach σ (σ 51 q) L ∧ (∀ c, c ∈ L → q < c ∧ ∃ ec : Int, ec ≤ e ∧ sn σ k c ec) ∧ (σ 46 q = 6 → ∀ n : Nat, (∃ x : Int, q < x ∧ x < e ∧ (σ 53 x = (n : Int) ∨ σ 54 x = (n : Int))) → ∀ c, c ∈ L → nv σ k e c n)
theorem sn_lt {σ : e3_H} {k : Nat} {q e : Int} (h : sn σ k q e) : q < e := by
  cases k with
  | zero => exact h.elim
  | succ k => exact h.1
theorem sn_keep {σ σ2 : e3_H} : ∀ (k : Nat) (q e : Int), sn σ k q e → (∀ a x : Int, a = 46 ∨ a = 51 → q ≤ x → x < e → σ2 a x = σ a x) → (∀ a x : Int, a = 52 ∨ a = 53 ∨ a = 54 → q < x → x < e → σ2 a x = σ a x) → sn σ2 k q e := by
  intro k
  induction k with
  | zero => intro q e h; exact h.elim
  | succ k ih =>
    intro q e h h1 h2
    obtain ⟨hlt, L, a1, a2, a3⟩ := h
    have hc : ∀ c, c ∈ L → q < c ∧ c < e := fun c hcL => by
      obtain ⟨u1, ec, u2, u3⟩ := a2 c hcL
      have := sn_lt u3
      omega
    refine ⟨hlt, L, ?_, fun c hcL => ?_, fun h6 n hx c hcL => ?_⟩
    · rw [h1 51 q (Or.inr rfl) (Int.le_refl _) hlt]
      exact ach_keep _ _ a1 (fun c hcL => h2 52 c (Or.inl rfl) (hc c hcL).1 (hc c hcL).2)
    · obtain ⟨u1, ec, u2, u3⟩ := a2 c hcL
      exact ⟨u1, ec, u2, ih c ec u3 (fun a x ha x0 x1 => h1 a x ha (by omega) (by omega)) (fun a x ha x0 x1 => h2 a x ha (by omega) (by omega))⟩
    · rw [h1 46 q (Or.inl rfl) (Int.le_refl _) hlt] at h6
      obtain ⟨x, x0, x1, x2⟩ := hx
      rw [h2 53 x (Or.inr (Or.inl rfl)) x0 x1, h2 54 x (Or.inr (Or.inr rfl)) x0 x1] at x2
      have hcc := hc c hcL
      refine nv_keep k e c (a3 h6 n ⟨x, x0, x1, x2⟩ c hcL) hcc.2 (fun a y ha y0 y1 => ?_) (fun y y0 y1 z => ?_) (fun y y0 y1 => h2 52 y (Or.inl rfl) (by omega) y1)
      · rcases ha with t | t | t
        · exact h1 a y (Or.inl t) (by omega) y1
        · exact h1 a y (Or.inr t) (by omega) y1
        · exact h2 a y (Or.inr (Or.inl t)) (by omega) y1
      · rw [h2 54 y (Or.inr (Or.inr rfl)) (by omega) y1]; exact z
/-- the children so far, each with where it ends -/
def kS (σ : e3_H) (k : Nat) (p last : Int) (L : List Int) : Prop := ∀ c, c ∈ L → p < c ∧ ∃ ec : Int, ec ≤ σ 40 16 ∧ sn σ k c ec ∧ (c = last ∨ ec ≤ last)
theorem kS_keep {σ σ2 : e3_H} {k : Nat} {p last : Int} {L : List Int} (h : kS σ k p last L) (e : ∀ a x : Int, a = 46 ∨ a = 51 ∨ a = 52 ∨ a = 53 ∨ a = 54 → σ2 a x = σ a x) (e16 : σ2 40 16 = σ 40 16) : kS σ2 k p last L := fun c hc => by
  obtain ⟨u1, ec, u2, u3, u4⟩ := h c hc
  exact ⟨u1, ec, by rw [e16]; exact u2, sn_keep k c ec u3 (fun a x ha _ _ => e a x (by omega)) (fun a x ha _ _ => e a x (by omega)), u4⟩
theorem kS_into {σ σ3 : e3_H} {k : Nat} {p last q : Int} {L : List Int} {C : Int → Nat → Bool} (h : kS σ k p last L) (hJ : kJ σ k p last L C) (hp : p < σ 40 16) (hq : q = σ 40 16) (hq2 : q < σ3 40 16) (hfr : ∀ a x : Int, 46 ≤ a → a ≤ 55 → x < σ 40 16 → σ3 a x = σ a x) (hw : sn σ3 k q (σ3 40 16)) (h0 : 0 ≤ p) : kS (a_into σ3 p last q) k p q (L ++ [q]) := by
  have e16 : a_into σ3 p last q 40 16 = σ3 40 16 := a_into_at 40 16 (by omega) (by omega) (by omega)
  have eo : ∀ a x : Int, a ≠ 51 → a ≠ 52 → a ≠ 55 → a_into σ3 p last q a x = σ3 a x := fun a x h1 h2 h3 => a_into_at a x h1 h2 h3
  have e51 : ∀ x : Int, x ≠ p → a_into σ3 p last q 51 x = σ3 51 x := fun x hx => by
    unfold a_into
    split
    · rw [e3_up_ne (ne_1 (by decide)), e3_up_ne (fun z => hx z.2)]
    · rw [e3_up_ne (ne_1 (by decide)), e3_up_ne (ne_1 (by decide))]
  have e52 : ∀ x : Int, x ≠ last → a_into σ3 p last q 52 x = σ3 52 x := fun x hx => by
    unfold a_into
    split
    · rw [e3_up_ne (ne_1 (by decide)), e3_up_ne (ne_1 (by decide))]
    · rw [e3_up_ne (ne_1 (by decide)), e3_up_ne (fun z => hx z.2)]
  have hl : last < σ 40 16 := by
    rcases hJ with ⟨_, y⟩ | ⟨_, _, _, ⟨_, y, _⟩, _⟩
    · omega
    · exact y
  intro c hc
  rcases List.mem_append.mp hc with z | z
  · obtain ⟨u1, ec, u2, u3, u4⟩ := h c z
    have hlt := sn_lt u3
    refine ⟨u1, ec, by rw [e16]; omega, sn_keep k c ec u3 (fun a x ha x0 x1 => ?_) (fun a x ha x0 x1 => ?_), Or.inr (by omega)⟩
    · rcases ha with y | y
      · rw [y, eo 46 x (by decide) (by decide) (by decide)]; exact hfr 46 x (by decide) (by decide) (by omega)
      · rw [y, e51 x (by omega)]; exact hfr 51 x (by decide) (by decide) (by omega)
    · rcases ha with y | y | y
      · rw [y, e52 x (by omega)]; exact hfr 52 x (by decide) (by decide) (by omega)
      · rw [y, eo 53 x (by decide) (by decide) (by decide)]; exact hfr 53 x (by decide) (by decide) (by omega)
      · rw [y, eo 54 x (by decide) (by decide) (by decide)]; exact hfr 54 x (by decide) (by decide) (by omega)
  · rw [List.mem_singleton.mp z]
    refine ⟨by omega, σ3 40 16, by rw [e16]; exact Int.le_refl _, sn_keep k q _ hw (fun a x ha x0 x1 => ?_) (fun a x ha x0 x1 => ?_), Or.inl rfl⟩
    · rcases ha with y | y
      · rw [y]; exact eo 46 x (by decide) (by decide) (by decide)
      · rw [y]; exact e51 x (by omega)
    · rcases ha with y | y | y
      · rw [y]; exact e52 x (by omega)
      · rw [y]; exact eo 53 x (by decide) (by decide) (by decide)
      · rw [y]; exact eo 54 x (by decide) (by decide) (by decide)
section SN2
variable {n m : Nat} {t : Int → Int} {r : Int}
theorem sn_kids {k : Nat} {g : Int → Nat → e3_H → a_R} {p kd : Int} (hg : ∀ s i σ j σ2 q, g s i σ = .inr (j, σ2, q) → p_inv σ m i → σ 40 16 ≤ (i : Int) → 0 ≤ s → s < 3 + m → a_pok m i σ j σ2 q) (hg2 : ∀ s i σ j σ2 q, g s i σ = .inr (j, σ2, q) → p_inv σ m i → σ 40 16 ≤ (i : Int) → 0 ≤ s → s < 3 + m → σ 40 27 = r → nm_inv r m σ → nm_inv r m σ2 ∧ nm_post r σ σ2) (hgn : ∀ s i σ j σ2 q, g s i σ = .inr (j, σ2, q) → p_inv σ m i → σ 40 16 ≤ (i : Int) → 0 ≤ s → s < 3 + m → σ 40 27 = r → nm_inv r m σ → sn σ2 k q (σ2 40 16) ∧ σ2 52 q = -4) (hk : 0 ≤ kd ∧ kd < m) :
    ∀ (rem jj : Nat) (last : Int) (i : Nat) (σ : e3_H) (j : Nat) (σ2 : e3_H) (p2 : Int), a_kids t n g p kd rem jj last i σ = .inr (j, σ2, p2) → p_inv σ m i → σ 40 16 ≤ (i : Int) → 0 ≤ p → p < σ 40 16 → (jj + rem : Int) ≤ σ 44 kd → σ 40 27 = r → nm_inv r m σ → ∀ (L : List Int) (C : Int → Nat → Bool), kJ σ k p last L C → kS σ k p last L → ∃ (last2 : Int) (L2 : List Int) (C2 : Int → Nat → Bool), L2 ≠ [] ∧ kJ σ2 k p last2 L2 C2 ∧ kS σ2 k p last2 L2 := by
  intro rem
  induction rem with
  | zero => intro jj last i σ j σ2 p2 h; cases h
  | succ rem ih =>
    intro jj last i σ j σ2 p2 h hp hs h0 h1 hr h27 hn L C hJ hK
    unfold a_kids at h
    split at h
    · cases h
    · rename_i i2 σ3 q hq
      have hso := a_sort_in (jj := jj) hp hk (by omega)
      obtain ⟨b1, b2, b3, b4, b5, b6⟩ := hg _ _ _ _ _ _ hq hp hs hso.1 hso.2
      have n1 := hg2 _ _ _ _ _ _ hq hp hs hso.1 hso.2 h27 hn
      obtain ⟨w1, w3⟩ := hgn _ _ _ _ _ _ hq hp hs hso.1 hso.2 h27 hn
      have n2 := nm_into (into := p) (last := last) (q := q) n1.1
      have pin : p_inv (a_into σ3 p last q) m i2 := p_into b5 (by omega) (by have := hp.2.1.1; omega)
      have e16 : a_into σ3 p last q 40 16 = σ3 40 16 := a_into_at 40 16 (by omega) (by omega) (by omega)
      have e27 : a_into σ3 p last q 40 27 = r := by rw [a_into_at 40 27 (by omega) (by omega) (by omega), b6.2.1 27 (by omega) (by omega)]; exact h27
      have J4 := kJ_into (Cq := fun _ => false) hJ h0 h1 b2 (by omega) (fun a x z1 z2 z3 => b6.2.2.2.1 a x z1 z2 z3) (fun w hw => by cases hw) w3
      have K4 := kS_into hK hJ h1 b2 (by omega) (fun a x z1 z2 z3 => b6.2.2.2.1 a x z1 z2 z3) w1 h0
      split at h
      · split at h
        · cases h
          exact ⟨q, L ++ [q], _, by simp, J4, K4⟩
        · cases h
      · split at h
        · have e44 : a_into σ3 p last q 44 kd = σ 44 kd := by
            rw [a_into_at 44 kd (by omega) (by omega) (by omega), b6.2.2.1 44 (by omega) (by omega)]
          exact ih (jj + 1) q (i2 + 1) (a_into σ3 p last q) j σ2 p2 h (p_inv_le pin (by omega)) (by rw [e16]; omega) h0 (by rw [e16]; omega) (by rw [e44]; omega) e27 n2.1 _ _ J4 K4
        · cases h
theorem sn_alts {k : Nat} {g : Bool → Nat → e3_H → a_R} {p pl b0 : Int} (hg : ∀ mu i σ j σ2 q, g mu i σ = .inr (j, σ2, q) → p_inv σ m i → σ 40 16 ≤ (i : Int) → a_pok m i σ j σ2 q) (hg2 : ∀ mu i σ j σ2 q, g mu i σ = .inr (j, σ2, q) → p_inv σ m i → σ 40 16 ≤ (i : Int) → σ 40 27 = r → nm_inv r m σ → nm_inv r m σ2 ∧ nm_post r σ σ2) (hgn : ∀ mu i σ j σ2 q, g mu i σ = .inr (j, σ2, q) → p_inv σ m i → σ 40 16 ≤ (i : Int) → σ 40 27 = r → nm_inv r m σ → sn σ2 k q (σ2 40 16) ∧ σ2 52 q = -4) (hb0 : 0 ≤ b0 ∧ b0 < 256) :
    ∀ (rem jj : Nat) (last fst : Int) (srt : Nat → Int) (un : Bool) (i : Nat) (σ : e3_H) (j : Nat) (σ2 : e3_H) (p2 : Int), a_alts t n g p pl b0 rem jj last fst srt un i σ = .inr (j, σ2, p2) → p_inv σ m i → σ 40 16 ≤ (i : Int) → 0 ≤ p → p < σ 40 16 → σ 40 27 = r → σ 40 31 = b0 → nm_inv r m σ → ∀ (L : List Int) (C : Int → Nat → Bool), kJ σ k p last L C → kS σ k p last L → ∃ (last2 : Int) (L2 : List Int) (C2 : Int → Nat → Bool), L2 ≠ [] ∧ kJ σ2 k p last2 L2 C2 ∧ kS σ2 k p last2 L2 := by
  intro rem
  induction rem with
  | zero => intro jj last fst srt un i σ j σ2 p2 h; cases h
  | succ rem ih =>
    intro jj last fst srt un i σ j σ2 p2 h hp hs h0 h1 h27 h31 hA L C hJ hK
    have hq : ∃ i2 σ3 q, g (decide (jj = 6)) i σ = .inr (i2, σ3, q) := by
      cases hz : g (decide (jj = 6)) i σ with
      | inl q => unfold a_alts at h; rw [hz] at h; cases h
      | inr y => exact ⟨y.1, y.2.1, y.2.2, rfl⟩
    obtain ⟨i2, σ3, q, hq⟩ := hq
    rw [a_alts_eq hq] at h
    obtain ⟨b1, b2, b3, b4, b5, b6⟩ := hg _ _ _ _ _ _ hq hp hs
    have n1 := hg2 _ _ _ _ _ _ hq hp hs h27 hA
    obtain ⟨w1, w3⟩ := hgn _ _ _ _ _ _ hq hp hs h27 hA
    have n2 := nm_into (into := p) (last := last) (q := q) n1.1
    have n3 := np_tr n1.2 n2.2
    have pin : p_inv (a_into σ3 p last q) m i2 := p_into b5 (by omega) (by have := hp.2.1.1; omega)
    have e16 : a_into σ3 p last q 40 16 = σ3 40 16 := a_into_at 40 16 (by omega) (by omega) (by omega)
    have e27 : a_into σ3 p last q 40 27 = r := by rw [a_into_at 40 27 (by omega) (by omega) (by omega), b6.2.1 27 (by omega) (by omega)]; exact h27
    have J4 := kJ_into (Cq := fun _ => false) hJ h0 h1 b2 (by omega) (fun a x z1 z2 z3 => b6.2.2.2.1 a x z1 z2 z3) (fun w hw => by cases hw) w3
    have K4 := kS_into hK hJ h1 b2 (by omega) (fun a x z1 z2 z3 => b6.2.2.2.1 a x z1 z2 z3) w1 h0
    generalize a_into σ3 p last q = τ at *
    split at h
    · refine ih (jj + 1) q _ _ _ (i2 + 1) _ j σ2 p2 h (p_inv_le (p_up31 pin hb0) (by omega)) (by simp (disch := omega) only [e3_up_self, e3_up_ne]; rw [e16]; omega) h0 (by simp (disch := omega) only [e3_up_self, e3_up_ne]; rw [e16]; omega) (by simp (disch := omega) only [e3_up_self, e3_up_ne]; exact e27) (by simp (disch := omega) only [e3_up_self, e3_up_ne]) ?_ _ _ (kJ_keep J4 (fun a x ha => e3_up_ne (ne_1 (by omega))) (e3_up_ne (fun z => absurd z.2 (by decide)))) (kS_keep K4 (fun a x ha => e3_up_ne (ne_1 (by omega))) (e3_up_ne (fun z => absurd z.2 (by decide))))
      refine ⟨fun w hw hb => ?_, fun w hw => ?_⟩
      · rw [e3_up_self] at hb
        simp (disch := omega) only [e3_up_self, e3_up_ne]
        have := hA.1 w hw (by rw [h31]; exact hb)
        have := n3.2.2.2
        omega
      · have hw' : (w : Int) < τ 56 r := by rw [e3_up_ne (by omega)] at hw; exact hw
        simp (disch := omega) only [e3_up_self, e3_up_ne]
        exact n2.1.2 w hw'
    · split at h
      · by_cases hun : a_un ((jj : Int) + 1) τ b0 fst srt un = true
        · rw [if_pos hun] at h; cases h
        · rw [if_neg hun] at h
          cases h
          generalize a_fst ((jj : Int) + 1) τ fst = fst' at *
          generalize a_sr ((jj : Int) + 1) τ srt = srt' at *
          have qo : ∀ a x : Int, a ≠ 40 → a ≠ 58 → a_srt (e3_up τ 40 31 fst') srt' 8 a x = τ a x := fun a x z1 z2 => by rw [a_srt_at 8 a x z2, e3_up_ne (ne_1 z1)]
          have q16 : a_srt (e3_up τ 40 31 fst') srt' 8 40 16 = τ 40 16 := by rw [a_srt_at 8 40 16 (by omega), e3_up_ne (fun z => absurd z.2 (by decide))]
          exact ⟨q, L ++ [q], _, by simp, kJ_keep J4 (fun a x ha => qo a x (by omega) (by omega)) q16, kS_keep K4 (fun a x ha => qo a x (by omega) (by omega)) q16⟩
      · cases h
theorem sn_as {σ1 σ2 : e3_H} {j j2 k : Nat} {p p2 e : Int} (h : a_as t n (.inr (j, σ1, p)) = .inr (j2, σ2, p2)) (hs : sn σ1 k p e) : sn σ2 k p2 e ∧ σ2 40 16 = σ1 40 16 := by
  unfold a_as at h
  simp only at h
  split at h
  · split at h
    · split at h
      · cases h
      · rename_i x σ3 hb
        cases h
        obtain ⟨u1, u2⟩ := binds_at hb
        refine ⟨sn_keep k p e hs (fun a y ha _ _ => ?_) (fun a y ha y0 _ => ?_), by rw [e3_up_ne (ne_1 (by decide))]; exact u2⟩
        · rw [e3_up_ne (ne_1 (by omega))]
          exact u1 a y (by omega) (by omega) (by omega) (by omega)
        · rw [e3_up_ne (fun z => by have := z.2; omega)]
          exact u1 a y (by omega) (by omega) (by omega) (by omega)
    · cases h
  · cases h
    exact ⟨hs, rfl⟩
/-- EITHERS of a pattern that was read -/
theorem sn_pat : ∀ (f : Nat) (s : Int) (d : Nat) (mu : Bool) (i : Nat) (σ : e3_H) (j : Nat) (σ2 : e3_H) (p : Int), a_pat t n f s d mu i σ = .inr (j, σ2, p) → p_inv σ m i → σ 40 16 ≤ (i : Int) → 0 ≤ s → s < 3 + m → σ 40 27 = r → nm_inv r m σ → ∀ k : Nat, d + k = 6 → sn σ2 k p (σ2 40 16) := by
  intro f
  induction f with
  | zero => intro s d mu i σ j σ2 p h; cases h
  | succ f ih =>
    intro s d mu i σ j σ2 p h hp hst hs0 hs1 h27 hn k hk
    rw [a_pat_beg] at h
    split at h
    · cases h
    · rename_i j1 σ1 op hb
      obtain ⟨b1, b2, b3, b4, b5, b6, b7, b8, b9, b10⟩ := a_beg_ok hb hp hst
      have n1 := nm_beg hb hp hst h27 hn ⟨hs0, hs1⟩
      obtain ⟨bm, bo⟩ := beg_46 hb
      have hp0 := hp.2.1.1
      have e27 : σ1 40 27 = r := by rw [b4.2.1 27 (by omega) (by omega)]; exact h27
      have hd : d < 6 := by
        by_cases hd : 6 ≤ d
        · rw [decide_eq_true hd, Bool.or_true] at bm; cases bm
        · omega
      obtain ⟨k', rfl⟩ : ∃ k', k = k' + 1 := ⟨k - 1, by omega⟩
      by_cases ho : op = true
      · rw [if_pos ho] at h
        have hr : ∃ j3 σ3 p3, a_rest t n f s d i σ j1 σ1 = .inr (j3, σ3, p3) := by
          cases hz : a_rest t n f s d i σ j1 σ1 with
          | inl q => rw [hz] at h; cases h
          | inr y => exact ⟨y.1, y.2.1, y.2.2, rfl⟩
        obtain ⟨j3, σ3, p3, hr⟩ := hr
        rw [hr] at h
        have e31 : σ1 40 31 = σ 40 31 := (b10 ho).1
        have N0 : NB r σ1 σ1 := fun a x _ x0 x1 => by omega
        have P0 : nm_post r σ1 σ1 := ⟨fun _ _ hb => hb, fun w hw h1 h2 => by omega, fun _ _ _ => rfl, Int.le_refl _⟩
        have J0 : kJ σ1 k' (σ 40 16) (-4) [] (fun _ _ => false) := Or.inl ⟨rfl, rfl⟩
        have K0 : kS σ1 k' (σ 40 16) (-4) [] := fun c hc => absurd hc (List.not_mem_nil)
        have mk : ∀ (last2 : Int) (L2 : List Int) (C2 : Int → Nat → Bool), L2 ≠ [] → kJ σ3 k' (σ 40 16) last2 L2 C2 → kS σ3 k' (σ 40 16) last2 L2 → (σ3 46 (σ 40 16) = 6 → ∀ n : Nat, (∃ x : Int, σ 40 16 < x ∧ x < σ3 40 16 ∧ (σ3 53 x = (n : Int) ∨ σ3 54 x = (n : Int))) → ∀ c, c ∈ L2 → nv σ3 k' (σ3 40 16) c n) → sn σ3 (k' + 1) (σ 40 16) (σ3 40 16) := fun last2 L2 C2 x2 x3 x4 x5 => by
          obtain ⟨y1, y2⟩ := kJ_end x3 x2
          have hlt : σ 40 16 < σ3 40 16 := by
            cases L2 with
            | nil => exact absurd rfl x2
            | cons c l => have := (y2 c (List.mem_cons_self ..)).1; omega
          refine ⟨hlt, L2, y1, fun c hc => ?_, x5⟩
          obtain ⟨u1, ec, u2, u3, _⟩ := x4 c hc
          exact ⟨u1, ec, u2, u3⟩
        have hk : p3 = σ 40 16 ∧ sn σ3 (k' + 1) (σ 40 16) (σ3 40 16) := by
          unfold a_rest at hr
          rcases (b10 ho).2 with ⟨c1, c2, c3, c4, c5, c6⟩ | ⟨c1, c2⟩
          · rw [if_pos c1] at hr
            have e44 : σ1 44 = σ 44 := b4.2.2.1 44 (by omega) (by omega)
            have h44 := (hp.1.2.2.2.2 (a_fd (σ 42) (x_wo t n i) (a_nk σ)).toNat (by omega)).1
            rw [Int.toNat_of_nonneg c4] at h44
            have hcnt : ((0 : Nat) + (σ 44 (a_fd (σ 42) (x_wo t n i) (a_nk σ))).toNat : Int) ≤ σ1 44 (a_fd (σ 42) (x_wo t n i) (a_nk σ)) := by rw [e44, Int.toNat_of_nonneg h44]; omega
            have hgk : ∀ s2 i2 σ2 j2 σ4 q, (fun s2 i2 σ2 => a_pat t n f s2 (d + 1) false i2 σ2) s2 i2 σ2 = .inr (j2, σ4, q) → p_inv σ2 m i2 → σ2 40 16 ≤ (i2 : Int) → 0 ≤ s2 → s2 < 3 + m → a_pok m i2 σ2 j2 σ4 q := fun s2 i2 σ2 j2 σ4 q hq g1 g2 _ _ => a_pat_ok f s2 (d + 1) false i2 σ2 j2 σ4 q hq g1 g2
            have hgm : ∀ s2 i2 σ2 j2 σ4 q, (fun s2 i2 σ2 => a_pat t n f s2 (d + 1) false i2 σ2) s2 i2 σ2 = .inr (j2, σ4, q) → p_inv σ2 m i2 → σ2 40 16 ≤ (i2 : Int) → 0 ≤ s2 → s2 < 3 + m → σ2 40 27 = r → nm_inv r m σ2 → nm_inv r m σ4 ∧ nm_post r σ2 σ4 := fun s2 i2 σ2 j2 σ4 q hq g1 g2 g3 g4 g5 g6 => nm_pat f s2 (d + 1) false i2 σ2 j2 σ4 q hq g1 g2 g3 g4 g5 g6
            have own := own_kids (m := m) hgk ⟨c4, c5⟩ _ _ _ _ _ _ _ _ hr b3 (by omega) hp0 (by omega) (Or.inl rfl) hcnt
            have hok := a_kids_ok (m := m) hgk ⟨c4, c5⟩ _ _ _ _ _ _ _ _ hr b3 (by omega) hp0 (by omega) (Or.inl rfl) hcnt
            obtain ⟨last2, L2, C2, x2, x3, x4⟩ := sn_kids (m := m) (k := k') hgk hgm (fun s2 i2 σ2 j2 σ4 q hq g1 g2 g3 g4 g5 g6 => ⟨ih s2 (d + 1) false i2 σ2 j2 σ4 q hq g1 g2 g3 g4 g5 g6 k' (by omega), (wt_pat f s2 (d + 1) false i2 σ2 j2 σ4 q hq g1 g2 g3 k' (by omega)).2.1⟩) ⟨c4, c5⟩ _ _ _ _ _ _ _ _ hr b3 (by omega) hp0 (by omega) hcnt e27 n1.1 [] (fun _ _ => false) J0 K0
            exact ⟨hok.2.1, mk last2 L2 C2 x2 x3 x4 (fun z => by rw [own 46 (by decide) (by decide) (by decide) (by decide), c2] at z; exact absurd z (by decide))⟩
          · rw [if_neg (by omega)] at hr
            have h31 := hp.2.2.2.2.1
            have hga : ∀ mu2 i2 σ2 j2 σ4 q, (fun mu2 i2 σ2 => a_pat t n f s (d + 1) mu2 i2 σ2) mu2 i2 σ2 = .inr (j2, σ4, q) → p_inv σ2 m i2 → σ2 40 16 ≤ (i2 : Int) → a_pok m i2 σ2 j2 σ4 q := fun mu2 i2 σ2 j2 σ4 q hq g1 g2 => a_pat_ok f s (d + 1) mu2 i2 σ2 j2 σ4 q hq g1 g2
            have hgm : ∀ mu2 i2 σ2 j2 σ4 q, (fun mu2 i2 σ2 => a_pat t n f s (d + 1) mu2 i2 σ2) mu2 i2 σ2 = .inr (j2, σ4, q) → p_inv σ2 m i2 → σ2 40 16 ≤ (i2 : Int) → σ2 40 27 = r → nm_inv r m σ2 → nm_inv r m σ4 ∧ nm_post r σ2 σ4 := fun mu2 i2 σ2 j2 σ4 q hq g1 g2 g5 g6 => nm_pat f s (d + 1) mu2 i2 σ2 j2 σ4 q hq g1 g2 hs0 hs1 g5 g6
            have hok := a_alts_ok (m := m) h31 hga _ _ _ _ _ _ _ _ _ _ _ hr (by omega) b3 (by omega) hp0 (by omega) (Or.inl rfl)
            obtain ⟨x1, last2, L2, C2, x2, x3, x4⟩ := nn_alts (m := m) (σS := σ1) (k := k') hga hgm (fun mu2 i2 σ2 j2 σ4 q hq g1 g2 g5 g6 => ⟨nn_pat f s (d + 1) mu2 i2 σ2 j2 σ4 q hq g1 g2 hs0 hs1 g5 g6 k' (by omega), (wt_pat f s (d + 1) mu2 i2 σ2 j2 σ4 q hq g1 g2 hs0 k' (by omega)).2.1⟩) h31 (b10 ho).1 _ _ _ _ _ _ _ _ _ _ _ hr b3 (by omega) hp0 (by omega) e27 (b10 ho).1 n1.1 (fun _ => rfl) (fun hz => absurd rfl hz) [] (fun _ _ => false) J0 (fun _ => rfl) (fun hz => absurd rfl hz)
            obtain ⟨last3, L3, C3, z2, z3, z4⟩ := sn_alts (m := m) (k := k') hga hgm (fun mu2 i2 σ2 j2 σ4 q hq g1 g2 g5 g6 => ⟨ih s (d + 1) mu2 i2 σ2 j2 σ4 q hq g1 g2 hs0 hs1 g5 g6 k' (by omega), (wt_pat f s (d + 1) mu2 i2 σ2 j2 σ4 q hq g1 g2 hs0 k' (by omega)).2.1⟩) h31 _ _ _ _ _ _ _ _ _ _ _ hr b3 (by omega) hp0 (by omega) e27 (b10 ho).1 n1.1 [] (fun _ _ => false) J0 K0
            obtain ⟨y1, y2⟩ := kJ_end x3 x2
            obtain ⟨y3, y4⟩ := kJ_end z3 z2
            have eL : L3 = L2 := ach_ij L3 L2 _ (fun c hc => by have := (y4 c hc).1; omega) (fun c hc => by have := (y2 c hc).1; omega) y3 y1
            subst eL
            refine ⟨hok.2.1, mk last3 L3 C3 z2 z3 z4 (fun _ w hx c hc => ?_)⟩
            obtain ⟨x, xa, xb, xc⟩ := hx
            have key : ∀ a : Int, a = 53 ∨ a = 54 → σ3 a x = (w : Int) → nv σ3 k' (σ3 40 16) c w := fun a ha hz => by
              obtain ⟨w', q1, q2, q3, q4, _⟩ := x1 a x ha (by omega) xb (by omega)
              have ew : w' = w := by omega
              subst ew
              rcases x4 w' q1 q4 with y | y
              · rw [q3] at y; cases y
              · exact (y2 c hc).2 w' (y c hc)
            rcases xc with y | y
            · exact key 53 (Or.inl rfl) y
            · exact key 54 (Or.inr rfl) y
        obtain ⟨k2, k3⟩ := hk
        rw [k2] at h
        obtain ⟨s1, s2⟩ := sn_as h k3
        rw [s2]
        exact s1
      · rw [if_neg ho] at h
        have s0 : sn σ1 (k' + 1) (σ 40 16) (σ1 40 16) := ⟨by omega, [], b6, fun c hc => absurd hc (List.not_mem_nil), fun _ _ _ c hc => absurd hc (List.not_mem_nil)⟩
        obtain ⟨s1, s2⟩ := sn_as h s0
        rw [s2]
        exact s1
end SN2
