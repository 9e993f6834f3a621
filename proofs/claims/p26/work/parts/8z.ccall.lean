section CCD
variable {m nf : Nat}
/-- what is known of a rule that hands over -/
def c_ca (σ H : e3_H) (G : e3_G) (r a : Int) : Prop := (139 ≤ a ∧ g_at G a (109, 19)) ∧ (H a 13 = σ 81 r ∧ H a 14 = σ 82 r ∧ H a 15 = σ 83 r) ∧ (H a 16 = a + 5 ∧ g_at G (a + 5) (0, 3)) ∧ (H a 17 = a + 6 ∧ g_at G (a + 6) (0, 3)) ∧ (∀ k : Nat, k < 3 → (k : Int) < σ 83 r → H (a + 5) k = σ 84 (3 * r + k) ∧ H (a + 6) k = σ 85 (3 * r + k)) ∧ (H a 4 = σ 56 r ∧ H a 6 = lb (fun k => if (k : Int) < σ 56 r then σ 58 (8 * r + k) + 1 else 0) 8)
/-- columns of all FUNCTIONS -/
def c_FL (nf : Nat) (σ H : e3_H) (G : e3_G) : Prop := c_fl nf σ H G ∧ ∀ f : Nat, f < nf → H (H 15 f) 1 = σ 68 f ∧ (139 ≤ H (H 15 f) 2 ∧ g_at G (H (H 15 f) 2) (0, 3)) ∧ ∀ c : Nat, (c : Int) < σ 68 f → H (H (H 15 f) 2) c = σ 69 (3 * (f : Int) + c)
theorem ca_ru {σ g H : e3_H} {G : e3_G} {r num lo hi a : Int} (h : c_ru σ r num g H G lo hi a) (h79 : σ 79 r = 2) : c_ca σ H G r a := by
  obtain ⟨h1, h2, h3, ⟨h4, h5, h6, h6b⟩, h7, h8, ⟨h9, h10⟩⟩ := h
  obtain ⟨s1, s2, s3, s4, s5, s6, s7, s8⟩ := h1
  rcases h10 with z | z | ⟨z1, z2, z3, ⟨z4, z5, z6⟩⟩
  · omega
  · omega
  · exact ⟨⟨s1, s2⟩, ⟨z2, z3, z4⟩, s7, s8, z6, h4, h7⟩
theorem cR_jarg {Q : Int → e3_H → e3_G → Prop} {r a fu f : Int} {σ K : e3_H} {G : e3_G} (hr : 0 ≤ r) (hk : k_inv σ m) (hkd : c_kd σ m K) (hca : c_ca σ K G r a) (hj : j_inv σ m r) (h79 : σ 79 r = 2) (hc : c_ok σ m f) (hfu : g_at G fu (108, 11)) (h1 : K fu 1 = σ 68 f) (h2 : 139 ≤ K fu 2 ∧ g_at G (K fu 2) (0, 3)) (hS : ∀ c : Nat, (c : Int) < σ 68 f → K (K fu 2) c = σ 69 (3 * f + c)) (h83 : σ 83 r = σ 68 f) :
    ∀ (rem i : Nat), (i + rem : Int) = σ 68 f → (a_jarg σ r f rem i = none → Q 1 K G) → (∀ q, a_jarg σ r f rem i = some q → ∀ K', c_flt q K K' → Q 0 K' G) → wR_checkCall_59 Q (rem + 1) a fu i K G := by
  obtain ⟨⟨a1, a2⟩, ⟨b1, b2, b3⟩, ⟨d1, d2⟩, ⟨e1, e2⟩, ha, ⟨g1, g2⟩⟩ := hca
  have obf := ga_ob (c := 8) hfu
  have obr := ga_ob (c := 9) a2
  have hc3 := hc.1
  have hm24 := hk.2.1
  have hB : lb_ok (fun k => if (k : Int) < σ 56 r then σ 58 (8 * r + k) + 1 else 0) := by
    intro k hk8
    simp only
    by_cases hz : (k : Int) < σ 56 r
    · rw [if_pos hz]; have := hj.2.2.1 k hz; omega
    · rw [if_neg hz]; omega
  intro rem
  induction rem with
  | zero =>
    intro i hi hok hfl
    refine ⟨obf, ?_⟩
    rw [h1]
    exact brF (by omega) (hok rfl)
  | succ rem ih =>
    intro i hi hok hfl
    obtain ⟨x1, x2⟩ := ha i (by omega) (by omega)
    obtain ⟨y1, y2⟩ := hj.2.2.2 h79 i (by omega) (by omega)
    have hso := hj.2.2.1 (σ 84 (3 * r + i)).toNat (by omega)
    rw [Int.toNat_of_nonneg y1] at hso
    have hwo := hc.2 i (by omega)
    have hu : a_jarg σ r f (rem + 1) i = if a_fit σ (σ 58 (8 * r + σ 84 (3 * r + i))) (σ 69 (3 * f + i)) = true then a_jarg σ r f rem (i + 1) else some (σ 85 (3 * r + i)) := rfl
    rw [hu] at hok hfl
    refine ⟨obf, ?_⟩
    rw [h1, d1, x1]
    refine brT (by omega) ⟨obr, ga_oa d2 (by omega) (by omega), obr, ?_⟩
    have ek : ((σ 84 (3 * r + i)).toNat : Int) = σ 84 (3 * r + i) := Int.toNat_of_nonneg y1
    rw [← ek]
    refine cU_nameSort2 a2 g1 g2 hB (by omega) hj.2.1.2 ⟨obf, ga_oa h2.2 (by omega) (by omega), ?_⟩
    rw [ek, if_pos y2, hS i (by omega), show σ 58 (8 * r + σ 84 (3 * r + i)) + 1 - 1 = σ 58 (8 * r + σ 84 (3 * r + i)) by omega]
    refine cK_suits hkd hk hso hwo (fun hz => brF (by decide) ?_) (fun hz => brT rfl ⟨obr, ?_⟩)
    · rw [if_pos hz] at hok hfl
      rw [w_p1 (by omega)]
      exact ih (i + 1) (by omega) hok hfl
    · rw [if_neg (by rw [hz]; decide)] at hfl
      rw [e1, x2]
      exact ⟨ga_oa e2 (by omega) (by omega), cR_failAt (by decide) (fun K2 hf => ⟨Or.inl rfl, hfl _ rfl K2 hf⟩)⟩
theorem c_18_kd {σ H K : e3_H} {G : e3_G} (h : c_kd σ m H) (hk : c_18 G H K) : c_kd σ m K := ckd_eq h (fun a k ha => hk.1 a k (Or.inr (by omega)))
theorem cR_checkCall {Q : Int → e3_H → e3_G → Prop} {r a : Int} {σ H K : e3_H} {G : e3_G} (hr : 0 ≤ r) (hF : F_inv σ m nf) (hkd : c_kd σ m H) (hFS : c_FL nf σ H G) (h18 : c_18 G H K) (hca : c_ca σ H G r a) (hj : j_inv σ m r) (h79 : σ 79 r = 2)
    (hok : ∀ f2 : Int, a_jan σ r = .inr (e3_up σ 80 r f2) → f2 = a_fd (σ 67) (σ 81 r) nf → 0 ≤ f2 → f2 < nf → ∀ K2, c_18 G H K2 → K2 a 18 = f2 → (∀ x k : Int, ¬ (x = a ∧ k = 18) → K2 x k = K x k) → Q 1 K2 G)
    (hfl : ∀ q, a_jan σ r = .inl q → ∀ K2 K3, c_18 G H K2 → c_flt q K2 K3 → Q 0 K3 G) : wR_checkCall Q a K G := by
  obtain ⟨i1, i2, i3, i4, i5⟩ := id hF
  obtain ⟨⟨z1, z2, z3⟩, z4⟩ := id hFS
  have ea := F_nf hF
  have flK : c_fl nf σ K G := ⟨by rw [h18.1 _ _ (Or.inr (by decide))]; exact z1, z2, fun f hf => by
    rw [h18.1 15 _ (Or.inr (by decide)), h18.1 _ _ (Or.inl (by decide))]
    exact z3 f hf⟩
  have caK : c_ca σ K G r a := by
    obtain ⟨⟨a1, a2⟩, ⟨b1, b2, b3⟩, ⟨d1, d2⟩, ⟨e1, e2⟩, ha, ⟨g1, g2⟩⟩ := hca
    have k18 : ∀ x k : Int, k ≠ 18 → K x k = H x k := fun x k hk => h18.1 x k (Or.inl hk)
    refine ⟨⟨a1, a2⟩, ⟨by rw [k18 _ _ (by decide)]; exact b1, by rw [k18 _ _ (by decide)]; exact b2, by rw [k18 _ _ (by decide)]; exact b3⟩, ⟨by rw [k18 _ _ (by decide)]; exact d1, d2⟩, ⟨by rw [k18 _ _ (by decide)]; exact e1, e2⟩, fun k k3 k4 => ?_, ⟨by rw [k18 _ _ (by decide)]; exact g1, by rw [k18 _ _ (by decide)]; exact g2⟩⟩
    rw [k18 _ _ (by omega), k18 _ _ (by omega)]
    exact ha k k3 k4
  have obr := ga_ob (c := 9) hca.1.2
  have a139 := hca.1.1
  unfold a_jan at hok hfl
  rw [ea] at hok hfl
  unfold wR_checkCall
  rw [caK.2.1.1]
  refine ⟨obr, cR_findFunction flK i3 ⟨obr, ?_⟩⟩
  have hfd := a_fd_rg (σ 67) (σ 81 r) nf
  generalize a_fd (σ 67) (σ 81 r) nf = f' at *
  intro H5 e5
  have k5 : ∀ x k : Int, ¬ (x = a ∧ k = 18) → H5 x k = K x k := fun x k hn => by rw [e5, e3_up_ne hn]
  have h185 : c_18 G H H5 := by
    refine ⟨fun x k hx => ?_, fun x k c n' hg hc => ?_⟩
    · rw [k5 x k (by omega)]; exact h18.1 x k hx
    · rw [k5 x k (fun z => by
        rw [z.1] at hg
        exact hc (Prod.mk.inj (ga_eq hg hca.1.2)).1)]
      exact h18.2 x k c n' hg hc
  have ca5 : c_ca σ H5 G r a := by
    obtain ⟨⟨a1, a2⟩, ⟨b1, b2, b3⟩, ⟨d1, d2⟩, ⟨e1, e2⟩, ha, ⟨g1, g2⟩⟩ := caK
    refine ⟨⟨a1, a2⟩, ⟨by rw [k5 _ _ (by omega)]; exact b1, by rw [k5 _ _ (by omega)]; exact b2, by rw [k5 _ _ (by omega)]; exact b3⟩, ⟨by rw [k5 _ _ (by omega)]; exact d1, d2⟩, ⟨by rw [k5 _ _ (by omega)]; exact e1, e2⟩, fun k k3 k4 => ?_, ⟨by rw [k5 _ _ (by omega)]; exact g1, by rw [k5 _ _ (by omega)]; exact g2⟩⟩
    rw [k5 _ _ (by omega), k5 _ _ (by omega)]
    exact ha k k3 k4
  have e18 : H5 a 18 = (if f' < 0 then -1 else f') := by rw [e5, e3_up_self]
  rw [e18]
  refine ⟨obr, ?_⟩
  unfold wR_functionAt wR_functionAt_21 wR_functionAt_22
  have u143 : H5 14 3 = nf := by rw [k5 _ _ (by omega)]; exact flK.1
  by_cases hz : f' < 0
  · rw [if_pos hz]
    refine brT (by decide) (brT (by decide) ⟨obr, ?_⟩)
    rw [ca5.2.1.2.1]
    exact cR_failAt (by decide) (fun K2 hf => ⟨Or.inl rfl, hfl _ (by rw [if_pos (by omega)]) H5 K2 h185 hf⟩)
  · rw [if_neg hz, u143]
    have hne : ¬ f' = -4 := by omega
    rw [if_neg hne] at hok hfl
    obtain ⟨⟨y1, y2⟩, y3⟩ := z3 f'.toNat (by omega)
    obtain ⟨fc1, ⟨fc2, fc3⟩, fc5⟩ := z4 f'.toNat (by omega)
    have ef : (f'.toNat : Int) = f' := Int.toNat_of_nonneg (by omega)
    rw [ef] at y1 y2 y3 fc1 fc2 fc3 fc5
    have u15 : H5 15 f' = H 15 f' := by rw [k5 _ _ (by omega)]; exact h18.1 _ _ (Or.inr (by decide))
    rw [u15]
    have hF1 := i4 f' (by omega) (by omega)
    have u1 : H5 (H 15 f') 1 = σ 68 f' := by
      rw [k5 _ _ (by omega), h18.1 _ _ (Or.inl (by decide)), fc1]
    refine brF hz (brT (by omega) ⟨by omega, brF (by omega) ⟨ga_ob (c := 8) y2, obr, ?_⟩⟩)
    rw [u1, ca5.2.1.2.2, ca5.2.1.2.1]
    refine ⟨fun he => ?_, fun he => ⟨obr, cR_failAt (by decide) (fun K2 hf => ⟨Or.inl rfl, hfl _ (by rw [if_pos (fun z => he z.symm)]) H5 K2 h185 hf⟩)⟩⟩
    rw [if_neg (fun z => z he.symm)] at hok hfl
    have u2 : H5 (H 15 f') 2 = H (H 15 f') 2 := by rw [k5 _ _ (by omega)]; exact h18.1 _ _ (Or.inl (by decide))
    have hc0 := hF1.1.1
    refine ⟨(σ 68 f').toNat + 1, cR_jarg hr i5.1 (c_18_kd hkd h185) ca5 hj h79 hF1.1 y2 u1 (by rw [u2]; exact ⟨fc2, fc3⟩) (fun c hc => ?_) he.symm (σ 68 f').toNat 0 (by omega) (fun hn => hok f' (by rw [hn]) rfl (by omega) (by omega) H5 h185 (by rw [e18, if_neg hz]) k5) (fun q hq K2 hf => hfl q (by rw [hq]) H5 K2 h185 hf)⟩
    rw [u2, h185.1 _ _ (Or.inl (by omega))]
    exact fc5 c hc
end CCD
