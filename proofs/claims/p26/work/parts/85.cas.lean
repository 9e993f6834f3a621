section CAS
variable {t : Int → Int} {n s m : Nat} {ru fu : Int} {R : Int → Int → Int → Int → e3_H → e3_G → (Int → e3_H → e3_G → Prop) → Prop} {Q : Int → e3_H → e3_G → Prop} {i : Nat} {σ g H : e3_H} {G : e3_G} {s0 x fl0 : Int}
theorem c_E_ad {K : e3_H} {G2 : e3_G} (hM : c_M t n s i m ru fu σ (g 3) H G) (h : c_E ru fu H G K G2) : K ru 5 = H ru 5 := h.2.2.2.2.1 5 (by decide) (by decide)
/-- behind a pattern: as NAME -/
theorem cR_as {j : Nat} {σ1 K g1 : e3_H} {G1 : e3_G} {p code : Int} (hM0 : c_M t n s i m ru fu σ (g 3) H G) (hk : c_ok2 t n s m ru fu i σ g H G fl0 code j σ1 p K G1 g1) (hp : p = σ 40 16) (hlt : p < σ1 40 16) (hij : i < j) (e27 : σ1 40 27 = σ 40 27) (h54 : σ1 54 p = -4) (h47 : σ1 47 p = s0) (hpi : p_inv σ1 m j) (hnm : nm_inv (σ1 40 27) m σ1) (hs : 0 ≤ s0 ∧ s0 < 3 + m)
    (hok : ∀ j2 σ2 p2 K2 G2 g2, a_as t n (.inr (j, σ1, p)) = .inr (j2, σ2, p2) → c_ok2 t n s m ru fu i σ g H G fl0 code j2 σ2 p2 K2 G2 g2 → Q (g2 0 p2) K2 G2)
    (hfl : ∀ q K2 G2, a_as t n (.inr (j, σ1, p)) = .inl q → c_bad ru fu q H G K2 G2 → gz G2 ≤ pot H G fu + 128 + 60 * ((s : Int) - i + 1) → Q (-1) K2 G2) : wR_readPattern_185 R Q s0 (g1 0 p) 1 K G1 := by
  have hd := c_M_ad hM0
  obtain ⟨k1, k2, k3, k4, k5, k6, k7, k8, k9⟩ := id hk
  obtain ⟨n7, n8, n9⟩ := c_now k1.1
  have hjs : j < s := k1.1.2.2.2.2.2.2.1
  obtain ⟨pt, pb⟩ := k3.1 p (by omega) hlt
  have ga := pt.1.2.1
  have a139 := pt.1.1
  have hd1 := c_M_ad k1
  have hpa := c_M_pa k1 ga
  unfold wR_readPattern_185
  refine brF (by decide) ?_
  rw [n7]
  refine ⟨fun he => ?_, fun he => ?_⟩
  · refine cT_stp k1.1 ⟨by omega, by omega⟩ (fun K1 a1 b1 => ⟨ga_ob (c := 10) ga, ?_⟩)
    have M1 := c_M_s k1 a1 b1
    have E1 := c_E_C k2 (by omega) (by omega) (by omega) b1
    have o9 := (c_now M1.1).2.2
    rw [o9]
    intro H4 e4
    have M4 : c_M t n s (j + 1) m ru fu σ1 (g1 3) H4 G1 := by rw [e4]; exact c_M_up M1 ga a139
    have E4 : c_E ru fu H G H4 G1 := by rw [e4]; exact c_E_up E1 (by omega) (by omega) (by omega) (by omega) (by omega)
    have f4 : ∀ b k : Int, b ≠ 3 → ¬ (b = g1 0 p ∧ k = 6) → H4 b k = K b k := by
      intro b k hb hn
      rw [e4, e3_up_ne hn]
      exact b1.1 b k (by simp only [List.mem_cons, List.not_mem_nil, or_false]; exact hb)
    have r5 : H4 ru 5 = K ru 5 := f4 ru 5 (by omega) (by omega)
    have fl2 : (x_ty t n (j + 1) ≠ 258 ∨ a_binds σ1 s0 (x_wo t n (j + 1)) = none) → a_as t n (.inr (j, σ1, p)) = .inl (x_sp t n (j + 1) : Int) := by
      intro hz
      unfold a_as
      simp only [if_pos he]
      rcases hz with hz | hz
      · rw [if_neg hz]
      · by_cases hy : x_ty t n (j + 1) = 258
        · rw [if_pos hy, h47, hz]
        · rw [if_neg hy]
    refine cR_readName M4 (p_inv_le hpi (by omega)) hnm hs (by omega) (by omega) (by omega) E4 (fun hy k σ2 hb K2 M2 E2 f2 => ?_) (fun hz K2 hb => ?_)
    · have ea : a_as t n (.inr (j, σ1, p)) = .inr (j + 2, e3_up σ2 54 p k, p) := by
        unfold a_as
        simp only [if_pos he, if_pos hy, h47, hb]
      obtain ⟨q27, q56, qrn, qk, qv, qx, q40⟩ := binds_rn hpi.2.2.2.1 hb
      rw [r5] at f2
      have fK : ∀ b k : Int, b ≠ 3 → b ≠ ru → b ≠ K ru 5 → ¬ (b = g1 0 p ∧ k = 6) → K2 b k = K b k := fun b k y1 y2 y3 y4 => (f2 b k y1 y2 y3).trans (f4 b k y1 y4)
      have e7 : K2 fu 7 = K fu 7 := fK fu 7 (by omega) (by omega) (by omega) (by omega)
      have e8 : K2 fu 8 = K fu 8 := fK fu 8 (by omega) (by omega) (by omega) (by omega)
      have rn57 : ∀ k : Int, 0 ≤ k → k < σ1 56 (σ 40 27) → σ2 57 (8 * σ 40 27 + k) = σ1 57 (8 * σ 40 27 + k) := by
        intro k k0 k1
        have := qrn k (by rw [e27]; exact k1)
        unfold a_rn at this
        rw [q27, e27] at this
        exact this
      have s16 : σ2 40 16 = σ1 40 16 := q40 16 (by omega)
      have K6 : K2 (g1 0 p) 6 = x_wo t n (j + 1) := by
        rw [f2 _ _ (by omega) (by omega) (by omega), e4, e3_up_self]
      have hg : ∀ a k : Int, 0 ≤ a → a ≤ 2 → k < σ1 40 16 → g1 a k = g1 a k := fun _ _ _ _ _ => rfl
      unfold wR_readPattern_229 wR_readPattern_240
      refine brF (by decide) (hok _ _ _ K2 G1 g1 ea ⟨c_M_σ M2 ?_ ?_ ?_ ?_ ?_ ?_ ?_ ?_ ?_, E2, ⟨fun q q0 q1 => ?_, fun q q2 y1 y2 y3 => k3.2 q q2 y1 y2 (by rw [e3_up_ne (by omega)] at y3; omega)⟩, k4, k5, k6, ?_, by omega, ?_⟩)
      · funext y; rw [e3_up_ne (by omega)]
      · funext y; rw [e3_up_ne (by omega)]
      · funext y; rw [e3_up_ne (by omega)]
      · funext y; rw [e3_up_ne (by omega)]
      · rw [e3_up_ne (by omega)]
      · rw [e3_up_ne (by omega)]
      · funext y; rw [e3_up_ne (by omega)]
      · funext y; rw [e3_up_ne (by omega)]
      · funext y; rw [e3_up_ne (by omega)]
      · rw [show (e3_up σ2 54 p k) 40 16 = σ1 40 16 by rw [e3_up_ne (by omega)]; exact s16] at q1 ⊢
        obtain ⟨pq, bq⟩ := k3.1 q q0 q1
        have gq := c_M_pa k1 pq.1.2.1
        have nq := pq.1.1
        have x57 : ∀ k' : Int, 0 ≤ k' → k' < σ1 56 (σ 40 27) → (e3_up σ2 54 p k) 57 (8 * σ 40 27 + k') = σ1 57 (8 * σ 40 27 + k') := fun k' y0 y1 => by rw [e3_up_ne (by omega)]; exact rn57 k' y0 y1
        have x56 : σ1 56 (σ 40 27) ≤ (e3_up σ2 54 p k) 56 (σ 40 27) := by rw [e3_up_ne (by omega), ← e27]; exact q56
        rw [e7]
        by_cases hqp : q = p
        · subst hqp
          obtain ⟨p1, p2, p3, p4, p5⟩ := pq
          have rows : ∀ b : Int, 46 ≤ b → b ≤ 55 → b ≠ 54 → (e3_up σ2 54 q k) b q = σ1 b q := by
            intro b b1 b2 b3
            rw [e3_up_ne (by omega), qx b (by omega) (by omega) (by omega) (by omega)]
          refine ⟨⟨c_p0_keep p1 ⟨[], by rw [List.append_nil]⟩ (fun b b1 b2 => rows b b1 (by omega) (by omega)) x57 x56 rfl rfl (fun _ _ _ => rfl) (by omega) (fun k' hk' => fK _ _ (by omega) (by omega) (by omega) (by omega)), ⟨?_, ?_⟩, c_l1_keep p3 (rows 46 (by omega) (by omega) (by omega)) (rows 51 (by omega) (by omega) (by omega)) hg q1 (by omega) (fK _ _ (by omega) (by omega) (by omega) (by omega)), c_l2_keep p4 (rows 52 (by omega) (by omega) (by omega)) hg q1 (by omega) (fK _ _ (by omega) (by omega) (by omega) (by omega)), ?_⟩, bq⟩
          · rw [K6, e3_up_self]
            unfold c_nam
            rw [if_neg (by omega), e3_up_ne (by omega), ← qv]
            unfold a_rn
            rw [q27, e27]
          · rw [e3_up_self, e3_up_ne (by omega), ← e27]
            exact Or.inr qk
          · rw [fK _ _ (by omega) (by omega) (by omega) (by omega), rows 55 (by omega) (by omega) (by omega)]
            exact p5
        · have hna : g1 0 q ≠ g1 0 p := by
            rcases Int.lt_or_gt_of_ne hqp with hz | hz
            · have := k3.2 q p q0 hz hlt; omega
            · have := k3.2 p q (by omega) hz q1; omega
          refine ⟨c_pt_keep pq ⟨[], by rw [List.append_nil]⟩ (fun b b1 b2 => ?_) x57 x56 hg (fun _ _ _ => rfl) (by omega) q1 (by omega) (fun k' => fK _ _ (by omega) (by omega) (by omega) (by omega)), bq⟩
          rw [e3_up_ne (by omega), qx b (by omega) (by omega) (by omega) (by omega)]
      · rw [e3_up_ne (by omega), qx 52 (by omega) (by omega) (by omega) (by omega)]; exact k7
      · have : pot K2 G1 fu = pot K G1 fu := by unfold pot; rw [e7, e8]
        omega
    · unfold wR_readPattern_229 wR_readPattern_240
      refine brT rfl (hfl _ K2 G1 (fl2 hz) hb ?_)
      have := gz_pot k1
      omega
  · unfold wR_readPattern_229 wR_readPattern_240
    refine brF (by decide) (hok j σ1 p K G1 g1 ?_ hk)
    unfold a_as
    simp only [if_neg he]
end CAS
