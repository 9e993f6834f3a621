section CRW
variable {m nf : Nat}
/-- the first rule of a function with too many rows: the same here and there -/
theorem cF_fw {Q : Int → e3_H → e3_G → Prop} {σ0 H K : e3_H} {G : e3_G} {f : Nat} (hfn : f < nf) (hF : F_inv σ0 m nf) (hJ : c_JL nf σ0 H G) (h18 : c_18 G H K) :
    ∀ (rem k : Nat) (l : Int) (σ : e3_H), (k + rem : Int) = σ0 70 f → (∀ a x : Int, a ≠ 71 → σ a x = σ0 a x) → σ 71 f = l → (0 ≤ l ∧ l ≤ 40) →
      (∀ σ2, a_rwr f rem k σ = .inr σ2 → Q (-1) K G) →
      (∀ q, a_rwr f rem k σ = .inl q → ∀ a, 139 ≤ a → g_at G a (109, 19) → K a 1 = q → Q a K G) → wF_firstWithTooManyRows_4 Q (rem + 1) (H 15 f) l k K G := by
  intro rem
  have h12 := hF.2.1
  have hF1 := hF.2.2.2.1 f (by omega) (by omega)
  have h70 := hF1.2.2.1
  induction rem with
  | zero =>
    intro k l σ hk he h71 hl hok hfl
    obtain ⟨j1, j2, j3, j4, j5, j6, j7⟩ := JL_18 (k := k) hJ h18 hfn h12
    refine ⟨ga_ob (c := 8) j2, ?_⟩
    rw [j3]
    exact brF (by omega) (hok σ rfl)
  | succ rem ih =>
    intro k l σ hk he h71 hl hok hfl
    obtain ⟨j1, j2, j3, j4, j5, j6, j7⟩ := JL_18 (k := k) hJ h18 hfn h12
    obtain ⟨⟨y1, y2⟩, _, _, y5, y6⟩ := (hJ.2 f hfn).2.2 k (by omega)
    have obf := ga_ob (c := 8) j2
    have e3 : K (H (H (H 15 f) 4) k) 3 = H (H (H (H 15 f) 4) k) 3 := h18.1 _ 3 (Or.inl (by decide))
    have e1 : K (H (H (H 15 f) 4) k) 1 = σ 73 (16 * (f : Int) + k) := by
      rw [h18.1 _ 1 (Or.inl (by decide)), y6, he 73 _ (by decide)]
    have e74 := he 74 (16 * (f : Int) + k) (by decide)
    refine ⟨obf, ?_⟩
    rw [j3, j4, j7, e3]
    generalize H (H (H (H 15 f) 4) k) 3 = x at y5 ⊢
    obtain ⟨⟨x1, x2⟩, x3⟩ := y5
    rw [← e74] at x3
    rw [e3_w32_id (x := l + x) (by omega) (by omega)]
    have oak := ga_oa j5 (i := k) (by omega) (by omega)
    refine brT (by omega) ⟨obf, oak, ga_ob (c := 9) y2, fun hb => ⟨obf, oak, ?_⟩, fun hb => ?_⟩
    · have hu : a_rwr f (rem + 1) k σ = .inl (σ 73 (16 * (f : Int) + k)) := by
        unfold a_rwr
        rw [if_pos]
        rw [h71, x3]
        split <;> omega
      exact hfl _ hu _ y1 y2 e1
    · have hx : x < 1000 := by omega
      rw [if_pos hx] at x3
      have hu : a_rwr f (rem + 1) k σ = a_rwr f rem (k + 1) (e3_up σ 71 f (l + x)) := by
        conv => lhs; unfold a_rwr
        rw [h71, x3, if_neg hb]
      rw [hu] at hok hfl
      rw [w_p1 (by omega)]
      exact ih (k + 1) (l + x) (e3_up σ 71 f (l + x)) (by omega) (fun a z ha => by rw [e3_up_ne (ne_1 ha)]; exact he a z ha) (e3_up_self _ _ _ _) (by omega) hok hfl
theorem a_rwr_fr {f : Int} : ∀ (rem k : Nat) (σ σ2 : e3_H), a_rwr f rem k σ = .inr σ2 → ∀ a x : Int, a ≠ 71 → σ2 a x = σ a x := by
  intro rem
  induction rem with
  | zero => intro k σ σ2 h a x _; cases h; rfl
  | succ rem ih =>
    intro k σ σ2 h a x ha
    unfold a_rwr at h
    split at h
    · cases h
    · rw [ih _ _ _ h a x ha, e3_up_ne (ne_1 ha)]
/-- rows of all functions: the first that has too many -/
theorem cR_rfs {Q : Int → e3_H → e3_G → Prop} {σ0 H K : e3_H} {G : e3_G} (hF : F_inv σ0 m nf) (hJ : c_JL nf σ0 H G) (h18 : c_18 G H K) :
    ∀ (rem f : Nat) (σ : e3_H), f + rem = nf → (∀ a x : Int, a ≠ 71 → σ a x = σ0 a x) →
      (∀ σ2, a_rfs rem f σ = .inr σ2 → ∃ n, wR_layRows_43 Q n 0 K G) →
      (∀ q, a_rfs rem f σ = .inl q → ∀ K3, c_flt q K K3 → Q 0 K3 G) → wR_layRows_2 Q (rem + 1) f K G := by
  intro rem
  induction rem with
  | zero =>
    intro f σ hf he hok hfl
    refine brF ?_ (hok σ rfl)
    rw [h18.1 14 3 (Or.inr (by decide)), hJ.1.1.1]
    omega
  | succ rem ih =>
    intro f σ hf he hok hfl
    have hfn : f < nf := by omega
    have h12 := hF.2.1
    obtain ⟨j1, j2, _⟩ := JL_18 (k := 0) hJ h18 hfn h12
    have h70 := (hF.2.2.2.1 f (by omega) (by omega)).2.2.1
    have hcn : ((σ0 70 f).toNat : Int) = σ0 70 f := Int.toNat_of_nonneg h70.1
    have hu : a_rfs (rem + 1) f σ = (match a_rwr f (σ0 70 f).toNat 0 (e3_up σ 71 f 0) with
      | .inl q => .inl q
      | .inr σ2 => a_rfs rem (f + 1) σ2) := by
      conv => lhs; unfold a_rfs
      rw [he 70 f (by decide)]
      rfl
    rw [hu] at hok hfl
    refine brT (by rw [h18.1 14 3 (Or.inr (by decide)), hJ.1.1.1]; omega) ⟨by omega, ?_⟩
    rw [j1]
    refine ⟨ga_ob (c := 8) j2, (σ0 70 f).toNat + 1, ?_⟩
    have he2 : ∀ a x : Int, a ≠ 71 → (e3_up σ 71 f 0) a x = σ0 a x := fun a x ha => by rw [e3_up_ne (ne_1 ha)]; exact he a x ha
    refine cF_fw hfn hF hJ h18 (σ0 70 f).toNat 0 0 (e3_up σ 71 f 0) (by omega) he2 (e3_up_self _ _ _ _) (by decide) (fun σ2 h => brT (by decide) ?_) (fun q h a ha1 ha2 ha3 => brF (by omega) ⟨ga_ob (c := 9) ha2, ?_⟩)
    · rw [h] at hok hfl
      rw [w_p1 (by omega)]
      exact ih (f + 1) σ2 (by omega) (fun a x ha => by rw [a_rwr_fr _ _ _ _ h a x ha]; exact he2 a x ha) hok hfl
    · rw [h] at hfl
      rw [ha3]
      exact cR_failAt (by decide) fun K3 hK => ⟨Or.inl rfl, hfl q rfl K3 hK⟩
end CRW
