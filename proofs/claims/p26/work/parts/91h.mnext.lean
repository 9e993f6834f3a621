/-- visited patterns that are no EITHER -/
def nt (σ : e3_H) : List (Int × Int) → Int
  | [] => 0
  | p :: l => (if σ 46 p.1 = 6 then 0 else 1) + nt σ l
theorem nt_0 {σ : e3_H} : ∀ V : List (Int × Int), 0 ≤ nt σ V := by
  intro V
  induction V with
  | nil => exact Int.le_refl _
  | cons p l ih => show 0 ≤ (if σ 46 p.1 = 6 then 0 else 1) + nt σ l; split <;> omega
theorem nt_app {σ : e3_H} : ∀ V W : List (Int × Int), nt σ (V ++ W) = nt σ V + nt σ W := by
  intro V W
  induction V with
  | nil => show nt σ W = 0 + nt σ W; omega
  | cons p l ih => show _ + nt σ (l ++ W) = _ + nt σ l + nt σ W; rw [ih]; omega
def p8 : Nat → Int
  | 0 => 1
  | k + 1 => 8 * p8 k
theorem p8_1 : ∀ k : Nat, 1 ≤ p8 k := by
  intro k
  induction k with
  | zero => exact Int.le_refl _
  | succ k ih => show 1 ≤ 8 * p8 k; omega
/-- a waiting pattern with what it will visit -/
def ly1 (σ : e3_H) (hi : Int) (k : Nat) (q w x : Int) (V : List (Int × Int)) : Prop := lyV σ k q w x V ∧ wt σ k hi q ∧ (0 ≤ q ∧ q < hi) ∧ σ 55 q < 1000 ∧ (0 ≤ w ∧ w ≤ 2147483647) ∧ 0 ≤ x ∧ (x + 1) * p8 k ≤ 2097152
/-- all waiting patterns -/
def lyT (σ : e3_H) (hi : Int) : List (Int × Int × Int) → List (Int × Int) → Prop
  | [], V => V = []
  | e :: T, V => ∃ k V1 V2, V = V1 ++ V2 ∧ ly1 σ hi k e.1 e.2.1 e.2.2 V1 ∧ lyT σ hi T V2
section MN
variable {σ : e3_H} {hi : Int} {G : e3_G}
theorem lyV_nt : ∀ (k : Nat) (q w x : Int) (V : List (Int × Int)), lyV σ k q w x V → 1 ≤ nt σ V := by
  intro k
  induction k with
  | zero => intro q w x V h; exact h.elim
  | succ k ih =>
    intro q w x V h
    obtain ⟨L, V1, _, e, h⟩ := h
    rw [e]
    show 1 ≤ (if σ 46 q = 6 then 0 else 1) + nt σ V1
    have := nt_0 (σ := σ) V1
    rcases h with ⟨h6, A, c, B, _, _, _, v⟩ | ⟨h6, _⟩
    · rw [if_pos h6]
      have := ih _ _ _ _ v
      omega
    · rw [if_neg h6]; omega
theorem lyT_nt : ∀ (T : List (Int × Int × Int)) (V : List (Int × Int)), lyT σ hi T V → (T.length : Int) ≤ nt σ V := by
  intro T
  induction T with
  | nil => intro V h; have h : V = [] := h; rw [h]; exact Int.le_refl _
  | cons e T ih =>
    intro V h
    obtain ⟨k, V1, V2, e1, l1, l2⟩ := h
    have h1 := lyV_nt _ _ _ _ _ l1.1
    have h2 := ih _ l2
    rw [e1, nt_app, List.length_cons]
    omega
/-- figures and places of children wait as lyC says -/
theorem kl_lyT {k : Nat} {T : List (Int × Int × Int)} {V2 : List (Int × Int)} (h2 : lyT σ hi T V2) : ∀ (L : List Int) (w x : Int) (V1 : List (Int × Int)), lyC (lyV σ k) σ L w x V1 → (∀ c, c ∈ L → (0 ≤ c ∧ c < hi) ∧ wt σ k hi c ∧ 1 ≤ σ 55 c) → wp σ L < 1000 → 0 ≤ w → w ≤ 2147483647 → 0 ≤ x → (x + L.length) * p8 k ≤ 2097152 → lyT σ hi (kl σ L w x ++ T) (V1 ++ V2) := by
  intro L
  induction L with
  | nil => intro w x V1 h _ _ _ _ _ _; have h : V1 = [] := h; rw [h]; exact h2
  | cons c l ih =>
    intro w x V1 h hr hp w0 w2 x0 hx
    obtain ⟨U1, U2, e, v1, v2⟩ := h
    have hl : ∀ y, y ∈ l → 1 ≤ σ 55 y := fun y hy => (hr y (List.mem_cons_of_mem _ hy)).2.2
    have hc := hr c (List.mem_cons_self ..)
    have p1 := wp_1 l hl
    have hp : σ 55 c * wp σ l < 1000 := hp
    have m := mul_1 hc.2.2 p1
    have d1 := Int.ediv_nonneg w0 (show 0 ≤ wp σ l by omega)
    have d2 := Int.ediv_le_self (wp σ l) w0
    have d3 := Int.emod_nonneg w (show wp σ l ≠ 0 by omega)
    have d4 := Int.emod_lt_of_pos w (show 0 < wp σ l by omega)
    rw [List.length_cons] at hx
    have q8 := p8_1 k
    have hxx : (x + 1) * p8 k ≤ (x + ((l.length + 1 : Nat) : Int)) * p8 k := Int.mul_le_mul_of_nonneg_right (by omega) (by omega)
    refine ⟨k, U1, U2 ++ V2, by rw [e, List.append_assoc], ⟨v1, hc.2.1, hc.1, by show σ 55 c < 1000; omega, ⟨d1, by show w / wp σ l ≤ _; omega⟩, x0, by show (x + 1) * p8 k ≤ _; omega⟩, ?_⟩
    refine ih (w % wp σ l) (x + 1) U2 v2 (fun y hy => hr y (List.mem_cons_of_mem _ hy)) (by omega) d3 (by omega) (by omega) ?_
    rw [show x + 1 + (l.length : Int) = x + ((l.length + 1 : Nat) : Int) by omega]
    exact hx
theorem cM_notes {Q : e3_H → e3_G → Prop} {q : Int} {H : e3_H} (hQ : Q H G) : wM_notes Q q (-4) H G := brT (by decide) (brT (by decide) hQ)
theorem cM_62 {Q : Int → e3_H → e3_G → Prop} {k30 : Int → Int → e3_H → e3_G → Prop} {c : Int} {B : List Int} {H : e3_H} (htb : tb σ H) : ∀ (A : List Int) (a w : Int), ach σ a (A ++ c :: B) → (∀ y, y ∈ A ++ c :: B → (0 ≤ y ∧ y < 1700) ∧ 1 ≤ σ 55 y) → ws σ A ≤ w → w - ws σ A < σ 55 c → 0 ≤ w → w ≤ 2147483647 → k30 c (w - ws σ A) H G → wM_nextPattern_62 Q k30 (A.length + 1) w a H G := by
  intro A
  induction A with
  | nil =>
    intro a w ha hm h1 h2 w0 w2 hk
    have hz : a = c := ha.1
    subst hz
    have hc := hm a (List.mem_cons_self ..)
    have h2 : w - 0 < σ 55 a := h2
    have hk : k30 a (w - 0) H G := hk
    rw [Int.sub_zero] at hk
    exact ⟨hc.1, brT (by rw [htb 55 a (by decide) (by decide) (by decide)]; omega) hk⟩
  | cons b A ih =>
    intro a w ha hm h1 h2 w0 w2 hk
    have hz : a = b := ha.1
    subst hz
    have hc := hm a (List.mem_cons_self ..)
    have h1 : σ 55 a + ws σ A ≤ w := h1
    have h2 : w - (σ 55 a + ws σ A) < σ 55 c := h2
    have hk : k30 c (w - (σ 55 a + ws σ A)) H G := hk
    have e55 := htb 55 a (by decide) (by decide) (by decide)
    have hws : 0 ≤ ws σ A := ws_0 A (fun y hy => (hm y (List.mem_cons_of_mem _ (List.mem_append_left _ hy))).2)
    refine ⟨hc.1, brF (by rw [e55]; omega) ⟨hc.1, hc.1, ?_⟩⟩
    rw [e55, htb 52 a (by decide) (by decide) (by decide), e3_w32_id (x := w - σ 55 a) (by omega) (by omega)]
    refine ih _ _ ha.2 (fun y hy => hm y (List.mem_cons_of_mem _ hy)) (by omega) (by omega) (by omega) (by omega) ?_
    rw [show w - σ 55 a - ws σ A = w - (σ 55 a + ws σ A) by omega]
    exact hk
/-- the next pattern that is no EITHER -/
theorem cM_30 {Q : Int → e3_H → e3_G → Prop} {H : e3_H} (htb : tb σ H) (h55 : ∀ y : Int, 0 ≤ y → y < hi → 1 ≤ σ 55 y) (hhi : hi ≤ 1700) (h71 : 0 ≤ H 40 71 ∧ H 40 71 < 2000) (h97 : H 97 (H 40 71) = -4) : ∀ (k : Nat) (q w x : Int) (V : List (Int × Int)), ly1 σ hi k q w x V → (∀ k' q' w' V', ly1 σ hi k' q' w' x V' → σ 46 q' ≠ 6 → tl σ V = tl σ V' → nt σ V = nt σ V' → V'.length ≤ V.length → Q q' (e3_up H 95 (H 40 71) w') G) → wM_nextPattern_30 Q k q w H G := by
  intro k
  induction k with
  | zero => intro q w x V h; exact h.1.elim
  | succ k ih =>
    intro q w x V h hQ
    have h' := h
    obtain ⟨hv, ht, hq, h5, hw, x0, hx⟩ := h'
    refine ⟨⟨hq.1, by omega⟩, ?_⟩
    rw [htb 46 q (by decide) (by decide) (by decide)]
    obtain ⟨L, V1, ⟨a1, a2⟩, e, hv⟩ := hv
    obtain ⟨L2, b1, b2, b3, b4, b5, b6⟩ := ht
    have e1 : ∀ y, y ∈ L2 → y ≠ -4 := fun y hy => by have := (b2 y hy).1; omega
    have hLL : L = L2 := ach_inj L L2 _ a2 e1 a1 b1
    subst hLL
    have hpos : ∀ y, y ∈ L → 1 ≤ σ 55 y := fun y hy => h55 y (by have := (b2 y hy).1; omega) (b2 y hy).2.1
    rcases hv with ⟨h6, A, c, B, eA, s1, s2, v⟩ | ⟨h6, hz, hl, hw2, v⟩
    · refine brT h6 ⟨h71, ?_⟩
      rw [h97]
      refine cM_notes ⟨⟨hq.1, by omega⟩, A.length + 1, ?_⟩
      rw [htb 51 q (by decide) (by decide) (by decide)]
      have hm : c ∈ L := by rw [eA]; exact List.mem_append_right _ (List.mem_cons_self ..)
      have ews : σ 55 q = ws σ L := by
        rw [h6] at b3
        rw [b3]
        exact wfL_6 (b5 h6) hpos (by rw [← b3]; exact h5)
      have hle := le_ws L hpos c hm
      have hws : 0 ≤ ws σ A := ws_0 A (fun y hy => hpos y (by rw [eA]; exact List.mem_append_left _ hy))
      refine cM_62 (B := B) (c := c) htb A _ w (by rw [← eA]; exact a1) (fun y hy => ?_) s1 s2 hw.1 hw.2 ?_
      · rw [← eA] at hy
        exact ⟨⟨by have := (b2 y hy).1; omega, by have := (b2 y hy).2.1; omega⟩, hpos y hy⟩
      · have q8 := p8_1 k
        have hx2 : (x + 1) * (8 * p8 k) ≤ 2097152 := hx
        have hx3 : (x + 1) * p8 k ≤ (x + 1) * (8 * p8 k) := Int.mul_le_mul_of_nonneg_left (by omega) (by omega)
        refine ih c (w - ws σ A) x V1 ⟨v, (b2 c hm).2.2, ⟨by have := (b2 c hm).1; omega, (b2 c hm).2.1⟩, by omega, ⟨by omega, by omega⟩, x0, by omega⟩ (fun k' q' w' V' g1 g2 g3 g4 g5 => hQ k' q' w' V' g1 g2 ?_ ?_ ?_)
        · rw [e, tl_neg (Or.inr h6)]; exact g3
        · rw [e]
          show (if σ 46 q = 6 then 0 else 1) + nt σ V1 = _
          rw [if_pos h6, g4]; omega
        · rw [e, List.length_cons]; omega
    · refine brF h6 ⟨h71, ?_⟩
      intro H7 e7
      rw [e7]
      exact hQ (k + 1) q w V h h6 rfl rfl (Nat.le_refl _)
end MN
