/-- a KIND was added -/
def AK0 (m : Nat) (σ σ2 : e3_H) : Prop := (∀ a x : Int, a ≠ 40 → a ≠ 42 → a ≠ 43 → a ≠ 44 → a ≠ 45 → σ2 a x = σ a x) ∧ (∀ a x : Int, 42 ≤ a → a ≤ 44 → x ≠ m → σ2 a x = σ a x) ∧ (∀ x : Int, x < 4 * (m : Int) → σ2 45 x = σ 45 x) ∧ (∀ x : Int, x ≠ 10 → σ2 40 x = σ 40 x) ∧ (m : Int) ≤ σ2 40 10
/-- tables that differ in KINDS that are not, at most -/
def AK (m : Nat) (σ σ2 : e3_H) : Prop := (∀ a x : Int, (46 ≤ a ∧ a ≤ 58) ∨ (67 ≤ a ∧ a ≤ 85) → σ2 a x = σ a x) ∧ (∀ a x : Int, 42 ≤ a → a ≤ 44 → 0 ≤ x → x < m → σ2 a x = σ a x) ∧ (∀ x : Int, 0 ≤ x → x < 4 * (m : Int) → σ2 45 x = σ 45 x) ∧ (σ2 40 16 = σ 40 16 ∧ σ2 40 41 = σ 40 41) ∧ (m : Int) ≤ σ2 40 10
theorem AK0_AK {m : Nat} {σ σ2 : e3_H} (h : AK0 m σ σ2) : AK m σ σ2 := ⟨fun a x ha => h.1 a x (by omega) (by omega) (by omega) (by omega) (by omega), fun a x h1 h2 h3 h4 => h.2.1 a x h1 h2 (by omega), fun x h1 h2 => h.2.2.1 x h2, ⟨h.2.2.2.1 16 (by decide), h.2.2.2.1 41 (by decide)⟩, h.2.2.2.2⟩
section AKN
variable {t : Int → Int} {n m : Nat} {σ σ2 : e3_H}
theorem pts_AK : ∀ (f i j : Nat) (σ σ2 : e3_H), a_pts t n m f i σ = .inr (j, σ2) → 0 ≤ σ 44 m → (∀ a x : Int, a ≠ 44 → a ≠ 45 → σ2 a x = σ a x) ∧ (∀ x : Int, x ≠ m → σ2 44 x = σ 44 x) ∧ ∀ x : Int, x < 4 * (m : Int) → σ2 45 x = σ 45 x := by
  intro f
  induction f with
  | zero => intro i j σ σ2 h; cases h
  | succ f ih =>
    intro i j σ σ2 h h0
    have h1 : ∀ s, (∀ a x : Int, a ≠ 44 → a ≠ 45 → a_pt1 σ m s a x = σ a x) ∧ (∀ x : Int, x ≠ m → a_pt1 σ m s 44 x = σ 44 x) ∧ (∀ x : Int, x < 4 * (m : Int) → a_pt1 σ m s 45 x = σ 45 x) ∧ 0 ≤ a_pt1 σ m s 44 m := fun s => by
      unfold a_pt1
      refine ⟨fun a x h4 h5 => by rw [e3_up_ne (ne_1 h4), e3_up_ne (ne_1 h5)], fun x hx => by rw [e3_up_ne (fun z => hx z.2), e3_up_ne (ne_1 (by decide))], fun x hx => by rw [e3_up_ne (ne_1 (by decide)), e3_up_ne (fun z => by omega)], by rw [e3_up_self]; omega⟩
    unfold a_pts at h
    split at h
    · cases h
    · rename_i s hs
      obtain ⟨a1, a2, a3, a4⟩ := h1 s
      split at h
      · obtain ⟨b1, b2, b3⟩ := ih _ _ _ _ h a4
        exact ⟨fun a x h4 h5 => (b1 a x h4 h5).trans (a1 a x h4 h5), fun x hx => (b2 x hx).trans (a2 x hx), fun x hx => (b3 x hx).trans (a3 x hx)⟩
      · split at h
        · cases h
          exact ⟨a1, a2, a3⟩
        · cases h
theorem knd_AK0 {i j : Nat} {added : Bool} (h : a_knd t n i added σ = .inr (j, σ2)) (hk : k_inv σ m) : AK0 m σ σ2 := by
  have hnk : a_nk σ = m := k_nk hk
  unfold a_knd at h
  rw [hnk] at h
  split at h
  · cases h
  · split at h
    · cases h
    · split at h
      · cases h
      · have A0 : AK0 m σ (a_new σ m (x_wo t n i)) ∧ a_new σ m (x_wo t n i) 44 m = 0 := by
          unfold a_new
          refine ⟨⟨fun a x h0 h2 h3 h4 h5 => by rw [e3_up_ne (ne_1 h4), e3_up_ne (ne_1 h3), e3_up_ne (ne_1 h2), e3_up_ne (ne_1 h0)], fun a x h2 h4 hx => by rw [e3_up_ne (ne_2 hx), e3_up_ne (ne_2 hx), e3_up_ne (ne_2 hx), e3_up_ne (ne_1 (by omega))], fun x hx => by rw [e3_up_ne (ne_1 (by decide)), e3_up_ne (ne_1 (by decide)), e3_up_ne (ne_1 (by decide)), e3_up_ne (ne_1 (by decide))], fun x hx => by rw [e3_up_ne (ne_1 (by decide)), e3_up_ne (ne_1 (by decide)), e3_up_ne (ne_1 (by decide)), e3_up_ne (ne_2 hx)], ?_⟩, e3_up_self ..⟩
          rw [e3_up_ne (ne_1 (by decide)), e3_up_ne (ne_1 (by decide)), e3_up_ne (ne_1 (by decide)), e3_up_self]
          omega
        have two : ∀ (j1 : Nat) (σ1 : e3_H), a_knd1 t n m (i + 1) added (a_new σ m (x_wo t n i)) = .inr (j1, σ1) → AK0 m σ σ1 ∧ σ1 44 m = 0 := by
          intro j1 σ1 h1
          obtain ⟨⟨b1, b2, b3, b4, b5⟩, b6⟩ := A0
          unfold a_knd1 at h1
          split at h1
          · unfold a_und at h1
            split at h1
            · cases h1
            · split at h1
              · cases h1
              · split at h1
                · cases h1
                · cases h1
                  refine ⟨⟨fun a x h0 h2 h3 h4 h5 => by rw [e3_up_ne (ne_1 h3)]; exact b1 a x h0 h2 h3 h4 h5, fun a x h2 h4 hx => by rw [e3_up_ne (ne_2 hx)]; exact b2 a x h2 h4 hx, fun x hx => by rw [e3_up_ne (ne_1 (by decide))]; exact b3 x hx, fun x hx => by rw [e3_up_ne (ne_1 (by decide))]; exact b4 x hx, by rw [e3_up_ne (ne_1 (by decide))]; exact b5⟩, by rw [e3_up_ne (ne_1 (by decide))]; exact b6⟩
          · split at h1
            · cases h1
            · cases h1
              exact ⟨⟨b1, b2, b3, b4, b5⟩, b6⟩
        unfold a_knd2 at h
        split at h
        · cases h
        · rename_i j1 σ1 h1
          obtain ⟨⟨b1, b2, b3, b4, b5⟩, b6⟩ := two j1 σ1 h1
          split at h
          · unfold a_knd3 at h
            split at h
            · cases h
            · rename_i j3 σ3 h3
              split at h
              · cases h
                obtain ⟨c1, c2, c3⟩ := pts_AK _ _ _ _ _ h3 (by rw [b6]; decide)
                refine ⟨fun a x h0 h2 h3 h4 h5 => (c1 a x h4 h5).trans (b1 a x h0 h2 h3 h4 h5), fun a x h2 h4 hx => ?_, fun x hx => (c3 x hx).trans (b3 x hx), fun x hx => (c1 40 x (by decide) (by decide)).trans (b4 x hx), by rw [c1 40 10 (by decide) (by decide)]; exact b5⟩
                by_cases z : a = 44
                · subst z; exact (c2 x hx).trans (b2 44 x (by decide) (by decide) hx)
                · exact (c1 a x z (by omega)).trans (b2 a x h2 h4 hx)
              · cases h
          · unfold a_knd3 at h
            split at h
            · cases h
            · rename_i hq
              cases hq
              split at h
              · cases h
                exact ⟨b1, b2, b3, b4, b5⟩
              · cases h
theorem knd_AK {i j : Nat} {added : Bool} (h : a_knd t n i added σ = .inr (j, σ2)) (hk : k_inv σ m) : AK m σ σ2 := AK0_AK (knd_AK0 h hk)
end AKN
section AKE
variable {m : Nat} {σ σ2 : e3_H}
theorem AK_f (h : AK m σ σ2) (a : Int) (ha : (46 ≤ a ∧ a ≤ 58) ∨ (67 ≤ a ∧ a ≤ 85)) : σ2 a = σ a := funext fun x => h.1 a x ha
theorem ach_e (e52 : σ2 52 = σ 52) : ∀ (L : List Int) (x : Int), ach σ2 x L = ach σ x L := by
  intro L
  induction L with
  | nil => intro x; rfl
  | cons c l ih => intro x; show (x = c ∧ ach σ2 (σ2 52 c) l) = (x = c ∧ ach σ (σ 52 c) l); rw [e52, ih]
theorem wf_e (e55 : σ2 55 = σ 55) (k5 : Int) : ∀ (L : List Int) (w : Int), wf σ2 k5 w L = wf σ k5 w L := by
  intro L
  induction L with
  | nil => intro w; rfl
  | cons c l ih => intro w; show wf σ2 k5 (a_mul w (σ2 55 c) k5) l = wf σ k5 (a_mul w (σ 55 c) k5) l; rw [e55, ih]
theorem wfL_e (e55 : σ2 55 = σ 55) (k5 : Int) (L : List Int) : wfL σ2 k5 L = wfL σ k5 L := by
  cases L with
  | nil => rfl
  | cons c l => show wf σ2 k5 (σ2 55 c) l = wf σ k5 (σ 55 c) l; rw [e55, wf_e e55]
theorem wp_e (e55 : σ2 55 = σ 55) : ∀ L : List Int, wp σ2 L = wp σ L := by
  intro L
  induction L with
  | nil => rfl
  | cons c l ih => show σ2 55 c * wp σ2 l = σ 55 c * wp σ l; rw [e55, ih]
theorem ws_e (e55 : σ2 55 = σ 55) : ∀ L : List Int, ws σ2 L = ws σ L := by
  intro L
  induction L with
  | nil => rfl
  | cons c l ih => show σ2 55 c + ws σ2 l = σ 55 c + ws σ l; rw [e55, ih]
theorem lyC_e (e55 : σ2 55 = σ 55) (R : Int → Int → Int → List (Int × Int) → Prop) : ∀ (L : List Int) (w x : Int) (V : List (Int × Int)), lyC R σ2 L w x V = lyC R σ L w x V := by
  intro L
  induction L with
  | nil => intro w x V; rfl
  | cons c l ih =>
    intro w x V
    show (∃ V1 V2, V = V1 ++ V2 ∧ R c (w / wp σ2 l) x V1 ∧ lyC R σ2 l (w % wp σ2 l) (x + 1) V2) = (∃ V1 V2, V = V1 ++ V2 ∧ R c (w / wp σ l) x V1 ∧ lyC R σ l (w % wp σ l) (x + 1) V2)
    rw [wp_e e55]
    simp only [ih]
theorem lyV_e (e46 : σ2 46 = σ 46) (e51 : σ2 51 = σ 51) (e52 : σ2 52 = σ 52) (e55 : σ2 55 = σ 55) : ∀ k : Nat, lyV σ2 k = lyV σ k := by
  intro k
  induction k with
  | zero => rfl
  | succ k ih =>
    funext q w x V
    unfold lyV
    simp only [e46, e51, e55, ach_e e52, ws_e e55, wp_e e55, lyC_e e55, ih]
theorem tl_e (e46 : σ2 46 = σ 46) (V : List (Int × Int)) : tl σ2 V = tl σ V := by unfold tl; rw [e46]
theorem nt_e (e46 : σ2 46 = σ 46) : ∀ V : List (Int × Int), nt σ2 V = nt σ V := by
  intro V
  induction V with
  | nil => rfl
  | cons p l ih => show (if σ2 46 p.1 = 6 then 0 else 1) + nt σ2 l = (if σ 46 p.1 = 6 then 0 else 1) + nt σ l; rw [e46, ih]
theorem nmp_e (e53 : σ2 53 = σ 53) (e54 : σ2 54 = σ 54) (pn : Int → Int) (V : List (Int × Int)) (k : Int) : nmp σ2 pn V k = nmp σ pn V k := by unfold nmp; rw [e53, e54]
theorem wt_AK (h : AK m σ σ2) (h10 : σ 40 10 = (m : Int)) : ∀ (k : Nat) (hi q : Int), wt σ k hi q → wt σ2 k hi q := by
  intro k
  induction k with
  | zero => intro hi q h; exact h.elim
  | succ k ih =>
    intro hi q hw
    obtain ⟨L, w1, w2, w3, w4, w5, w6, n1, ⟨c1, c2⟩, t1⟩ := hw
    have f := AK_f h
    refine ⟨L, by rw [f 51 (by decide), ach_e (f 52 (by decide))]; exact w1, fun c hc => ⟨(w2 c hc).1, (w2 c hc).2.1, ih hi c (w2 c hc).2.2⟩, by rw [f 55 (by decide), f 46 (by decide), wfL_e (f 55 (by decide))]; exact w3, by rw [f 46 (by decide)]; exact w4, by rw [f 46 (by decide)]; exact w5, by rw [f 46 (by decide)]; exact w6, ?_, ⟨?_, ?_⟩, ?_⟩
    · unfold nod
      rw [f 46 (by decide), f 47 (by decide), f 48 (by decide), f 49 (by decide), f 50 (by decide)]
      have h5 := h.2.2.2.2
      obtain ⟨a1, a2, a3, a4, a5, a6, a7⟩ := n1
      exact ⟨a1, a2, a3, a4, a5, fun z => ⟨(a6 z).1, (a6 z).2.1, by have := (a6 z).2.2; omega⟩, a7⟩
    · rw [f 46 (by decide), f 47 (by decide)]; exact c1
    · rw [f 46 (by decide), f 47 (by decide), f 48 (by decide)]
      intro z i c hi
      have hl := w6 (by omega)
      have hil := (List.getElem?_eq_some_iff.mp hi).1
      have := n1.2.2.2.2.2.1 z
      rw [h.2.2.1 _ (by omega) (by omega)]
      exact c2 z i c hi
    · rw [f 46 (by decide), f 48 (by decide)]
      intro z hL
      have := n1.2.2.2.2.2.1 z
      rw [h.2.1 44 _ (by decide) (by decide) (by omega) (by omega)]
      exact t1 z hL
end AKE
