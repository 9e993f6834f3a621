/-- ways of children: multiplied, added -/
def wp (σ : e3_H) : List Int → Int
  | [] => 1
  | c :: l => σ 55 c * wp σ l
def ws (σ : e3_H) : List Int → Int
  | [] => 0
  | c :: l => σ 55 c + ws σ l
theorem wp_1 {σ : e3_H} : ∀ (L : List Int), (∀ c, c ∈ L → 1 ≤ σ 55 c) → 1 ≤ wp σ L := by
  intro L
  induction L with
  | nil => intro _; exact Int.le_refl _
  | cons c l ih =>
    intro h
    have h1 := h c (List.mem_cons_self ..)
    have h2 := ih (fun y hy => h y (List.mem_cons_of_mem _ hy))
    show 1 ≤ σ 55 c * wp σ l
    have := Int.mul_le_mul h1 h2 (by omega) (by omega)
    omega
theorem ws_0 {σ : e3_H} : ∀ (L : List Int), (∀ c, c ∈ L → 1 ≤ σ 55 c) → 0 ≤ ws σ L := by
  intro L
  induction L with
  | nil => intro _; exact Int.le_refl _
  | cons c l ih =>
    intro h
    have h1 := h c (List.mem_cons_self ..)
    have h2 := ih (fun y hy => h y (List.mem_cons_of_mem _ hy))
    show 0 ≤ σ 55 c + ws σ l
    omega
theorem mul_1 {x y : Int} (hx : 1 ≤ x) (hy : 1 ≤ y) : 1 ≤ x * y ∧ x ≤ x * y ∧ y ≤ x * y := by
  have h1 := Int.mul_le_mul hx hy (by omega) (by omega)
  have h2 := Int.mul_le_mul_of_nonneg_left hy (show 0 ≤ x by omega)
  have h3 := Int.mul_le_mul_of_nonneg_right hx (show 0 ≤ y by omega)
  omega
/-- few ways: no cap was reached -/
theorem wf_5 {σ : e3_H} : ∀ (L : List Int) (w : Int), 1 ≤ w → (∀ c, c ∈ L → 1 ≤ σ 55 c) → wf σ 5 w L < 1000 → wf σ 5 w L = w * wp σ L := by
  intro L
  induction L with
  | nil => intro w _ _ _; show w = w * 1; omega
  | cons c l ih =>
    intro w hw h hl
    have h1 := h c (List.mem_cons_self ..)
    have hr : ∀ c, c ∈ l → 1 ≤ σ 55 c := fun y hy => h y (List.mem_cons_of_mem _ hy)
    have hp := wp_1 l hr
    have hm := mul_1 hw h1
    have ham : 1 ≤ a_mul w (σ 55 c) 5 := (a_mul_ok hw h1).1
    have he : wf σ 5 w (c :: l) = a_mul w (σ 55 c) 5 * wp σ l := ih _ ham hr hl
    have hx : a_mul w (σ 55 c) 5 < 1000 := by
      have := (mul_1 ham hp).2.1
      omega
    have hy : a_mul w (σ 55 c) 5 = w * σ 55 c := by
      unfold a_mul at hx ⊢
      rw [if_pos rfl] at hx ⊢
      split
      · rename_i hz; rw [if_pos hz] at hx; omega
      · rfl
    rw [he, hy, Int.mul_assoc]
    rfl
theorem wf_6 {σ : e3_H} : ∀ (L : List Int) (w : Int), 1 ≤ w → (∀ c, c ∈ L → 1 ≤ σ 55 c) → wf σ 6 w L < 1000 → wf σ 6 w L = w + ws σ L := by
  intro L
  induction L with
  | nil => intro w _ _ _; show w = w + 0; omega
  | cons c l ih =>
    intro w hw h hl
    have h1 := h c (List.mem_cons_self ..)
    have hr : ∀ c, c ∈ l → 1 ≤ σ 55 c := fun y hy => h y (List.mem_cons_of_mem _ hy)
    have hp := ws_0 l hr
    have ham : 1 ≤ a_mul w (σ 55 c) 6 := (a_mul_ok hw h1).1
    have he : wf σ 6 w (c :: l) = a_mul w (σ 55 c) 6 + ws σ l := ih _ ham hr hl
    have hy : a_mul w (σ 55 c) 6 = w + σ 55 c := by
      have hx : a_mul w (σ 55 c) 6 < 1000 := by omega
      unfold a_mul at hx ⊢
      rw [if_neg (show ¬ ((6 : Int) = 5) by decide)] at hx ⊢
      split
      · rename_i hz; rw [if_pos hz] at hx; omega
      · rfl
    rw [he, hy, Int.add_assoc]
    rfl
/-- the figures of a way, the first child's turning slowest -/
def dig (σ : e3_H) : List Int → Int → List Int
  | [], _ => []
  | c :: l, w => (w / wp σ l) :: dig σ l (w % wp σ l)
theorem wp_snoc {σ : e3_H} {c : Int} : ∀ (L : List Int), wp σ (L ++ [c]) = wp σ L * σ 55 c := by
  intro L
  induction L with
  | nil => show σ 55 c * 1 = 1 * σ 55 c; omega
  | cons d l ih =>
    show σ 55 d * wp σ (l ++ [c]) = σ 55 d * wp σ l * σ 55 c
    rw [ih, Int.mul_assoc]
/-- taken from the last one -/
theorem dig_snoc {σ : e3_H} {c : Int} (hc : 1 ≤ σ 55 c) : ∀ (L : List Int) (w : Int), (∀ y, y ∈ L → 1 ≤ σ 55 y) → 0 ≤ w → w < wp σ (L ++ [c]) → dig σ (L ++ [c]) w = dig σ L (w / σ 55 c) ++ [w % σ 55 c] := by
  intro L
  induction L with
  | nil =>
    intro w _ h0 h1
    have h1 : w < σ 55 c * 1 := h1
    rw [Int.mul_one] at h1
    show [w / 1] = [w % σ 55 c]
    rw [Int.ediv_one, Int.emod_eq_of_lt h0 h1]
  | cons d l ih =>
    intro w h h0 h1
    have hr : ∀ y, y ∈ l → 1 ≤ σ 55 y := fun y hy => h y (List.mem_cons_of_mem _ hy)
    have hp := wp_1 l hr
    have hpc : wp σ (l ++ [c]) = wp σ l * σ 55 c := wp_snoc l
    have hpp := mul_1 hp hc
    show (w / wp σ (l ++ [c])) :: dig σ (l ++ [c]) (w % wp σ (l ++ [c])) = (w / σ 55 c / wp σ l) :: (dig σ l (w / σ 55 c % wp σ l) ++ [w % σ 55 c])
    rw [ih _ hr (Int.emod_nonneg _ (by rw [hpc]; omega)) (Int.emod_lt_of_pos _ (by rw [hpc]; omega)), hpc]
    have e1 : w / (wp σ l * σ 55 c) = w / σ 55 c / wp σ l := by
      rw [Int.mul_comm, Int.ediv_ediv_of_nonneg (by omega)]
    have e2 : w % (wp σ l * σ 55 c) % σ 55 c = w % σ 55 c := Int.emod_emod_of_dvd w ⟨wp σ l, by rw [Int.mul_comm]⟩
    have e3 : w % (wp σ l * σ 55 c) / σ 55 c = w / σ 55 c % wp σ l := by
      rw [Int.emod_def w (wp σ l * σ 55 c), Int.emod_def (w / σ 55 c) (wp σ l), e1]
      rw [show w - wp σ l * σ 55 c * (w / σ 55 c / wp σ l) = w + -(wp σ l * (w / σ 55 c / wp σ l)) * σ 55 c by
        rw [Int.neg_mul, Int.mul_right_comm, ← Int.sub_eq_add_neg]]
      rw [Int.add_mul_ediv_right _ _ (by omega), ← Int.sub_eq_add_neg]
    rw [e1, e2, e3]
