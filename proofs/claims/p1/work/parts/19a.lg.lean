def rn_P (r : Option Value) (h : List am_E) : Prop := r = some (.int 1) ∧ h.length ≤ 600000 ∧ am_sl h ≤ 7302250
theorem lg_lt (x y : Int64) : (lg_cmp x y < (0 : Int32)) ↔ x < y := by
  unfold lg_cmp
  split
  · rename_i h; exact ⟨fun q => absurd q (by decide), fun q => by rw [Int64.lt_iff_toInt_lt] at q; rw [gt_iff_lt, Int64.lt_iff_toInt_lt] at h; omega⟩
  · split
    · rename_i h1 h2; subst h2; exact ⟨fun q => absurd q (by decide), fun q => by rw [Int64.lt_iff_toInt_lt] at q; omega⟩
    · rename_i h1 h2
      refine ⟨fun _ => ?_, fun _ => by decide⟩
      rw [gt_iff_lt, Int64.lt_iff_toInt_lt] at h1
      rw [← Int64.toInt_inj] at h2
      rw [Int64.lt_iff_toInt_lt]
      omega
theorem lg_gt (x y : Int64) : ((0 : Int32) < lg_cmp x y) ↔ y < x := by
  unfold lg_cmp
  split
  · rename_i h; exact ⟨fun _ => h, fun _ => by decide⟩
  · rename_i h1
    split
    · exact ⟨fun q => absurd q (by decide), fun q => absurd q h1⟩
    · exact ⟨fun q => absurd q (by decide), fun q => absurd q h1⟩
theorem lg_le (x y : Int64) : (lg_cmp x y ≤ (0 : Int32)) ↔ x ≤ y := by
  have h := lg_gt x y
  rw [Int32.lt_iff_toInt_lt, Int64.lt_iff_toInt_lt] at h
  rw [Int32.le_iff_toInt_le, Int64.le_iff_toInt_le]
  omega
theorem lg_ge (x y : Int64) : ((0 : Int32) ≤ lg_cmp x y) ↔ y ≤ x := by
  have h := lg_lt x y
  rw [Int32.lt_iff_toInt_lt, Int64.lt_iff_toInt_lt] at h
  rw [Int32.le_iff_toInt_le, Int64.le_iff_toInt_le]
  omega
theorem lg_z (x y : Int64) : (lg_cmp x y = (0 : Int32)) ↔ x = y := by
  have h1 := lg_lt x y
  have h2 := lg_gt x y
  rw [Int32.lt_iff_toInt_lt, Int64.lt_iff_toInt_lt] at h1 h2
  rw [← Int32.toInt_inj, ← Int64.toInt_inj]
  have e : (0 : Int32).toInt = 0 := rfl
  omega
theorem rn_im4 : (-4 : Int32).toInt = -4 := by decide
theorem rn_lm4 : (-4 : Int64).toInt = -4 := by decide
theorem rn_im3 : (-3 : Int32).toInt = -3 := by decide
theorem rn_lm3 : (-3 : Int64).toInt = -3 := by decide
theorem rn_im2 : (-2 : Int32).toInt = -2 := by decide
theorem rn_lm2 : (-2 : Int64).toInt = -2 := by decide
theorem rn_im1 : (-1 : Int32).toInt = -1 := by decide
theorem rn_lm1 : (-1 : Int64).toInt = -1 := by decide
theorem rn_i0 : (0 : Int32).toInt = 0 := by decide
theorem rn_l0 : (0 : Int64).toInt = 0 := by decide
theorem rn_i1 : (1 : Int32).toInt = 1 := by decide
theorem rn_l1 : (1 : Int64).toInt = 1 := by decide
theorem rn_i2 : (2 : Int32).toInt = 2 := by decide
theorem rn_l2 : (2 : Int64).toInt = 2 := by decide
theorem rn_i3 : (3 : Int32).toInt = 3 := by decide
theorem rn_l3 : (3 : Int64).toInt = 3 := by decide
theorem rn_i4 : (4 : Int32).toInt = 4 := by decide
theorem rn_l4 : (4 : Int64).toInt = 4 := by decide
theorem rn_i5 : (5 : Int32).toInt = 5 := by decide
theorem rn_l5 : (5 : Int64).toInt = 5 := by decide
theorem rn_i6 : (6 : Int32).toInt = 6 := by decide
theorem rn_l6 : (6 : Int64).toInt = 6 := by decide
theorem rn_i7 : (7 : Int32).toInt = 7 := by decide
theorem rn_l7 : (7 : Int64).toInt = 7 := by decide
theorem rn_i8 : (8 : Int32).toInt = 8 := by decide
theorem rn_l8 : (8 : Int64).toInt = 8 := by decide
