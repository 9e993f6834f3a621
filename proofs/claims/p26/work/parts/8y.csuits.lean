/-- only the rules' callees differ -/
def c_18 (G : e3_G) (H K : e3_H) : Prop := (∀ x k : Int, k ≠ 18 ∨ x < 139 → K x k = H x k) ∧ ∀ (x k : Int) (c n' : Nat), g_at G x (c, n') → c ≠ 109 → K x k = H x k
section CCC
variable {m : Nat}
theorem cK_suits {Q : Int → e3_H → e3_G → Prop} {s0 w : Int} {σ H : e3_H} {G : e3_G} (h : c_kd σ m H) (hk : k_inv σ m) (hs : 0 ≤ s0 ∧ s0 < 3 + m) (hw : 0 ≤ w ∧ w < 3 + m) (h1 : a_fit σ s0 w = true → Q 1 H G) (h0 : a_fit σ s0 w = false → Q 0 H G) : wK_suits Q s0 w H G := by
  have hm24 := hk.2.1
  have eqc : (s0 < 3 ∨ w < 3) → wK_suits_10 Q s0 w H G := by
    intro hz
    have hd : (decide (3 ≤ s0) && decide (3 ≤ w)) = false := by
      rcases hz with hz | hz
      · rw [decide_eq_false (show ¬ 3 ≤ s0 by omega)]; rfl
      · rw [decide_eq_false (show ¬ 3 ≤ w by omega), Bool.and_false]
    unfold wK_suits_10 wK_suits_20
    refine ⟨fun he => ⟨Or.inr rfl, h1 (by unfold a_fit; rw [decide_eq_true he]; rfl)⟩, fun he => ⟨Or.inl rfl, h0 ?_⟩⟩
    unfold a_fit
    rw [decide_eq_false he, hd]
    rfl
  unfold wK_suits
  refine ⟨fun hz => eqc (Or.inl hz), fun hz => ⟨fun hy => eqc (Or.inr hy), fun hy => ?_⟩⟩
  have es : ((s0 - 3).toNat : Int) = s0 - 3 := Int.toNat_of_nonneg (by omega)
  rw [e3_w32_id (x := s0 - 3) (by omega) (by omega), e3_w32_id (x := w - 3) (by omega) (by omega), ← es]
  have d3 : decide (3 ≤ s0) = true := decide_eq_true (by omega)
  have d4 : decide (3 ≤ w) = true := decide_eq_true (by omega)
  refine cK_isOrUnder (m := m) (g := σ 43) h.1 hk.2.1 hk.2.2.2.1 (fun j hj => (h.2 j hj).2.1) (by omega) (fun ha => ⟨Or.inr rfl, h1 ?_⟩) (fun ha => ⟨Or.inl rfl, h0 ?_⟩)
  · rw [es] at ha
    unfold a_fit
    rw [ha, d3, d4, Bool.and_true, Bool.and_true, Bool.or_true]
  · rw [es] at ha
    unfold a_fit
    rw [ha, Bool.and_false, Bool.or_false]
    refine decide_eq_false (fun he => ?_)
    rw [he] at ha
    unfold a_of at ha
    simp at ha
    omega
theorem cU_nameSort2 {Q : Int → e3_H → e3_G → Prop} {k : Nat} {a c : Int} {B : Nat → Int} {H : e3_H} {G : e3_G} (ga : g_at G a (109, 19)) (h4 : H a 4 = c) (h6 : H a 6 = lb B 8) (hB : lb_ok B) (hk : (k : Int) < c) (hc : c ≤ 8) (hQ : Q (B k - 1) H G) : wU_nameSort Q a k H G := by
  have ob := ga_ob (c := 9) ga
  unfold wU_nameSort
  refine brF (by omega) ⟨ob, brT (by rw [h4]; exact hk) ⟨ob, ?_⟩⟩
  unfold wU_nameSort_32
  have := hB k (by omega)
  rw [h6, lb_get hB (by omega), e3_w32_id (x := B k) (by omega) (by omega), e3_w32_id (x := B k - 1) (by omega) (by omega)]
  exact hQ
end CCC
