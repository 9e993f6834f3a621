section CKE
variable {H0 H K σ : e3_H} {G : e3_G} {n s i m : Nat} {t : Int → Int} {added : Bool}
theorem cK_begin {Q : Int → e3_H → e3_G → Prop} {v : Int} (h : c_kd σ m H) (hk : k_inv σ m) (hlt : m < 24 → ∀ K, K = e3_up (e3_up (e3_up (e3_up (e3_up H 9 m v) 10 m (-1)) 11 m 0) 12 m 0) 8 0 ((m + 1 : Nat) : Int) → Q m K G) (hge : ¬ m < 24 → Q (-1) H G) : wK_begin Q v H G := by
  have hm24 := hk.2.1
  unfold wK_begin
  rw [h.1]
  refine ⟨fun hc => ⟨⟨by omega, by omega⟩, ?_⟩, fun hc => hge (by omega)⟩
  intro H1 e1
  have a1 : H1 8 0 = m := by rw [e1, e3_up_ne (by omega), h.1]
  rw [a1]
  refine ⟨⟨by omega, by omega⟩, ?_⟩
  intro H3 e3
  have a3 : H3 8 0 = m := by rw [e3, e3_up_ne (by omega), a1]
  rw [a3]
  refine ⟨⟨by omega, by omega⟩, ?_⟩
  intro H5 e5
  have a5 : H5 8 0 = m := by rw [e5, e3_up_ne (by omega), a3]
  rw [a5]
  refine ⟨⟨by omega, by omega⟩, ?_⟩
  intro H7 e7
  have a7 : H7 8 0 = m := by rw [e7, e3_up_ne (by omega), a5]
  rw [a7, w_p1 (by omega)]
  intro H9 e9
  have a9 : H9 8 0 = ((m + 1 : Nat) : Int) := by rw [e9, e3_up_self]
  rw [a9, w_m1 (by omega) (by omega), show m + 1 - 1 = m by omega]
  refine hlt (by omega) H9 ?_
  rw [e9, e7, e5, e3, e1, x_and01]
theorem a_sl_new {σ : e3_H} {v u : Int} (hu : a_up (σ 43) m) (h0 : 0 ≤ u) : a_sl (a_new σ m v 43) u (m + 1) = a_sl (σ 43) u m := by
  obtain ⟨e1, e2, e3, e4, e5, e6, _⟩ := a_new_at σ m v
  have h1 : a_sl (a_new σ m v 43) u (m + 1) = true ↔ a_sl (σ 43) u m = true := by
    rw [a_sl_iff, a_sl_iff]
    refine ⟨fun ⟨j, hj, hv⟩ => ?_, fun ⟨j, hj, hv⟩ => ⟨j, by omega, by rw [(e5 j (by omega)).2.1]; exact hv⟩⟩
    by_cases hjm : j = m
    · subst hjm
      rw [e3] at hv
      omega
    · rw [(e5 j (by omega)).2.1] at hv
      exact ⟨j, by omega, hv⟩
  cases hz : a_sl (σ 43) u m with
  | true => exact h1.mpr hz
  | false =>
    cases hy : a_sl (a_new σ m v 43) u (m + 1) with
    | false => rfl
    | true => rw [h1.mp hy] at hz; cases hz
theorem ckd_new {v : Int} (h : c_kd σ m H) (hk : k_inv σ m) : c_kd (a_new σ m v) (m + 1) (e3_up (e3_up (e3_up (e3_up (e3_up H 9 m v) 10 m (-1)) 11 m 0) 12 m 0) 8 0 ((m + 1 : Nat) : Int)) := by
  obtain ⟨e1, e2, e3, e4, e5, e6, _⟩ := a_new_at σ m v
  refine ⟨e3_up_self _ _ _ _, fun k hkm => ?_⟩
  rw [a_sl_new hk.2.2.2.1 (by omega)]
  by_cases hz : k = m
  · subst hz
    rw [e2, e3, e4]
    refine ⟨?_, ?_, ?_, fun i hi => by omega, ?_⟩
    · rw [e3_up_ne (by omega), e3_up_ne (by omega), e3_up_ne (by omega), e3_up_ne (by omega), e3_up_self]
    · rw [e3_up_ne (by omega), e3_up_ne (by omega), e3_up_ne (by omega), e3_up_self, if_pos (by omega)]
    · rw [e3_up_ne (by omega), e3_up_self]
    · rw [e3_up_ne (by omega), e3_up_ne (by omega), e3_up_self]
      have : a_sl (σ 43) k k = false := by
        cases hy : a_sl (σ 43) k k with
        | false => rfl
        | true =>
          obtain ⟨j, hj, hv⟩ := (a_sl_iff _ _ _).mp hy
          have := hk.2.2.2.1 j hj
          omega
      rw [this]
      rfl
  · obtain ⟨a, b, c, d, e⟩ := h.2 k (by omega)
    obtain ⟨q1, q2, q3⟩ := e5 k (by omega)
    rw [q1, q2, q3]
    refine ⟨?_, ?_, ?_, fun i hi => ?_, ?_⟩
    · rw [e3_up_ne (by omega), e3_up_ne (by omega), e3_up_ne (by omega), e3_up_ne (by omega), e3_up_ne (by omega)]; exact a
    · rw [e3_up_ne (by omega), e3_up_ne (by omega), e3_up_ne (by omega), e3_up_ne (by omega), e3_up_ne (by omega)]; exact b
    · rw [e3_up_ne (by omega), e3_up_ne (by omega), e3_up_ne (by omega), e3_up_ne (by omega), e3_up_ne (by omega)]; exact c
    · rw [e6, e3_up_ne (by omega), e3_up_ne (by omega), e3_up_ne (by omega), e3_up_ne (by omega), e3_up_ne (by omega)]; exact d i hi
    · rw [e3_up_ne (by omega), e3_up_ne (by omega), e3_up_ne (by omega), e3_up_ne (by omega), e3_up_ne (by omega)]; exact e
theorem ckd_und {u : Nat} (h : c_kd σ (m + 1) H) (hk : k_inv σ (m + 1)) (hu : u < m) (h43 : σ 43 m = -4) : c_kd (e3_up σ 43 m u) (m + 1) (e3_up (e3_up H 10 m u) 11 u 1) := by
  refine ⟨by rw [e3_up_ne (by omega), e3_up_ne (by omega)]; exact h.1, fun k hkm => ?_⟩
  obtain ⟨a, b, c, d, e⟩ := h.2 k hkm
  have hsl : a_sl (e3_up σ 43 m u 43) k (m + 1) = true ↔ (a_sl (σ 43) k (m + 1) = true ∨ k = u) := by
    rw [a_sl_iff, a_sl_iff]
    refine ⟨fun ⟨j, hj, hv⟩ => ?_, fun hz => ?_⟩
    · by_cases hjm : j = m
      · subst hjm
        rw [e3_up_self] at hv
        exact Or.inr (by omega)
      · rw [e3_up_ne (by omega)] at hv
        exact Or.inl ⟨j, hj, hv⟩
    · rcases hz with ⟨j, hj, hv⟩ | hz
      · by_cases hjm : j = m
        · subst hjm; omega
        · exact ⟨j, hj, by rw [e3_up_ne (by omega)]; exact hv⟩
      · exact ⟨m, by omega, by rw [e3_up_self, hz]⟩
  refine ⟨?_, ?_, ?_, fun i hi => ?_, ?_⟩
  · rw [e3_up_ne (by omega), e3_up_ne (by omega), e3_up_ne (by omega)]; exact a
  · rw [e3_up_ne (by omega)]
    by_cases hkm2 : k = m
    · subst hkm2
      rw [e3_up_self, e3_up_self, if_neg (by omega)]
    · rw [e3_up_ne (by omega), e3_up_ne (by omega)]; exact b
  · rw [e3_up_ne (by omega), e3_up_ne (by omega), e3_up_ne (by omega)]; exact c
  · rw [e3_up_ne (by omega)] at hi
    rw [e3_up_ne (by omega), e3_up_ne (by omega), e3_up_ne (by omega)]; exact d i hi
  · by_cases hku : k = u
    · subst hku
      rw [e3_up_self, if_pos (hsl.mpr (Or.inr rfl))]
    · rw [e3_up_ne (by omega), e3_up_ne (by omega), e]
      by_cases hz : a_sl (σ 43) k (m + 1) = true
      · rw [if_pos hz, if_pos (hsl.mpr (Or.inl hz))]
      · rw [if_neg hz, if_neg (fun q => (hsl.mp q).elim hz hku)]
theorem cK_partCount {Q : Int → e3_H → e3_G → Prop} {k : Nat} (h : c_kd σ m H) (hk : k < m) (hm : m ≤ 24) (hQ : Q (σ 44 k) H G) : wK_partCount Q k H G := by
  unfold wK_partCount wK_partCount_21 wK_partCount_22
  rw [h.1, (h.2 k hk).2.2.1]
  exact brF (by omega) (brT (by omega) ⟨⟨by omega, by omega⟩, hQ⟩)
theorem cK_isSealed {Q : Int → e3_H → e3_G → Prop} {k : Nat} (h : c_kd σ m H) (hk : k < m) (hm : m ≤ 24) (h1 : a_sl (σ 43) k m = true → Q 1 H G) (h0 : a_sl (σ 43) k m = false → Q 0 H G) : wK_isSealed Q k H G := by
  unfold wK_isSealed wK_isSealed_25 wK_isSealed_26
  rw [h.1, (h.2 k hk).2.2.2.2]
  refine brF (by omega) (brT (by omega) ⟨⟨by omega, by omega⟩, ?_⟩)
  cases hz : a_sl (σ 43) k m with
  | true => exact brF (by decide) ⟨Or.inr rfl, h1 hz⟩
  | false => exact brT rfl ⟨Or.inl rfl, h0 hz⟩
theorem c_under {Q : Int → e3_H → e3_G → Prop} {ad : Int} (had : ad = if added = true then 1 else 0) (h : c_tk t n s i H) (hnf : x_nf t n i) (hkd : c_kd σ (m + 1) H) (hk : k_inv σ (m + 1)) (hfr : ck_fr m added H0 H) (h43 : σ 43 m = -4) (hok : ∀ j σ', a_und t n m (i + 1) added σ = .inr (j, σ') → ∀ K, c_tk t n s j K → c_kd σ' (m + 1) K → k_inv σ' (m + 1) → ck_fr m added H0 K → σ' 44 m = σ 44 m → Q 1 K G) (hfl : ∀ pl, a_und t n m (i + 1) added σ = .inl pl → ∀ K, K 14 4 ≠ 0 → K 14 5 = pl → ck_fr m added H0 K → Q 0 K G) : wR_readUnder Q m ad H G := by
  have hm24 := hk.2.1
  unfold wR_readUnder
  refine cT_stp h hnf (fun K1 a b => ?_)
  have kd1 := ckd_C hkd b
  have fr1 := ck_C hfr b
  obtain ⟨n1, n2, n3⟩ := c_now a
  rw [n1, n3]
  have fail : ∀ (c : Int), c ≠ 0 → a_und t n m (i + 1) added σ = .inl (x_sp t n (i + 1)) → wR_failHere (fun x3 H1 G2 => ((x3 : Int) = 0 ∨ x3 = 1) ∧ Q x3 H1 G2) c K1 G := by
    intro c hc hu
    exact cR_failHere a hc (fun K hf => ⟨Or.inl rfl, hfl _ hu K hf.1 hf.2.1 (ck_f fr1 hf)⟩)
  refine ⟨fun h9 => ?_, fun h9 => fail 2 (by decide) (by unfold a_und; rw [if_pos h9])⟩
  refine cK_fnd kd1 hk ?_
  have hu : a_und t n m (i + 1) added σ = (if a_fd (σ 42) (x_wo t n (i + 1)) (m + 1) = -4 ∨ a_fd (σ 42) (x_wo t n (i + 1)) (m + 1) = m then .inl (x_sp t n (i + 1))
      else if 0 < σ 44 (a_fd (σ 42) (x_wo t n (i + 1)) (m + 1)) ∨ (added = true ∧ a_sl (σ 43) (a_fd (σ 42) (x_wo t n (i + 1)) (m + 1)) (m + 1) = false) then .inl (x_sp t n (i + 1))
      else .inr (i + 1 + 1, e3_up σ 43 m (a_fd (σ 42) (x_wo t n (i + 1)) (m + 1)))) := by
    unfold a_und
    rw [if_neg (fun z => z h9)]
  rcases a_fd_rg (σ 42) (x_wo t n (i + 1)) (m + 1) with hr | ⟨r1, r2, r3⟩
  · rw [hr, if_pos (Or.inl rfl)] at hu
    rw [hr]
    refine brT (by decide) ?_
    unfold wR_readUnder_50
    exact fail 4 (by decide) hu
  · obtain ⟨u, hue⟩ : ∃ u : Nat, a_fd (σ 42) (x_wo t n (i + 1)) (m + 1) = u := ⟨(a_fd (σ 42) (x_wo t n (i + 1)) (m + 1)).toNat, by omega⟩
    rw [hue] at hu r1 r2 ⊢
    rw [if_neg (by omega)]
    refine brF (by omega) ⟨fun hz => ?_, fun hz => ?_⟩
    · rw [if_pos (Or.inr hz)] at hu
      unfold wR_readUnder_50
      exact fail 4 (by decide) hu
    · rw [if_neg (by omega)] at hu
      refine cK_partCount kd1 (by omega) hm24 ?_
      refine ⟨fun hz2 => ?_, fun hz2 => ?_⟩
      · rw [if_pos (Or.inl hz2)] at hu
        unfold wR_readUnder_82
        exact fail 5 (by decide) hu
      · have good : ¬ (0 < σ 44 u ∨ (added = true ∧ a_sl (σ 43) u (m + 1) = false)) → wR_readUnder_88 Q m u K1 G := by
          intro hz3
          rw [if_neg hz3] at hu
          unfold wR_readUnder_88 wK_putUnder wK_putUnder_30
          refine cK_has (k := m) kd1.1 (by omega) (brF (by decide) ?_)
          refine cK_has kd1.1 (by omega) (brF (by decide) ⟨⟨by omega, by omega⟩, ?_⟩)
          intro H7 e7
          refine ⟨⟨by omega, by omega⟩, ?_⟩
          intro H9 e9
          rw [x_and11] at e9
          have kd2 : c_kd (e3_up σ 43 m u) (m + 1) H9 := by rw [e9, e7]; exact ckd_und kd1 hk (by omega) h43
          have a2 : c_tk t n s (i + 1) H9 := by rw [e9, e7]; exact ctk_up (ctk_up a (by omega)) (by omega)
          have fr2 : ck_fr m added H0 H9 := by
            rw [e9, e7]
            refine ck_up (ck_up fr1 (by omega)) (Or.inr (Or.inr (Or.inr ⟨rfl, fun had2 => ?_⟩)))
            rw [e3_up_ne (by omega), (kd1.2 u (by omega)).2.2.2.2]
            have : a_sl (σ 43) u (m + 1) = true := by
              cases hy : a_sl (σ 43) u (m + 1) with
              | true => rfl
              | false => exact absurd (Or.inr ⟨had2, hy⟩) hz3
            rw [if_pos this]
          refine cT_stp a2 ⟨by omega, by omega⟩ (fun K2 a3 b3 => ?_)
          refine hok _ _ hu K2 a3 (ckd_C kd2 b3) ?_ (ck_C fr2 b3) ?_
          · obtain ⟨g1, g2, g3, g4, g5⟩ := hk
            refine ⟨by rw [e3_up_ne (by omega), g1], g2, ?_, ?_, ?_⟩
            · intro j l hj hl he
              rw [e3_up_ne (by omega), e3_up_ne (by omega)] at he
              exact g3 j l hj hl he
            · intro k hk2
              by_cases hkm : k = m
              · subst hkm
                rw [e3_up_self]
                exact Or.inr ⟨by omega, by omega⟩
              · rw [e3_up_ne (by omega)]
                exact g4 k hk2
            · intro k hk2
              rw [e3_up_ne (by omega)]
              obtain ⟨q1, q2, q3⟩ := g5 k hk2
              refine ⟨q1, q2, fun x hx => ?_⟩
              rw [e3_up_ne (by omega)]
              exact q3 x hx
          · rw [e3_up_ne (by omega)]
        cases added with
        | false =>
          rw [if_neg (by simp)] at had
          exact brT had (good (fun z => z.elim hz2 (fun q => by cases q.1)))
        | true =>
          rw [if_pos rfl] at had
          refine brF (by omega) ?_
          refine cK_isSealed kd1 (by omega) hm24 (fun hs => brF (by decide) ?_) (fun hs => brT rfl ?_)
          · exact good (fun z => z.elim hz2 (fun q => by rw [hs] at q; cases q.2))
          · rw [if_pos (Or.inr ⟨rfl, hs⟩)] at hu
            unfold wR_readUnder_82
            exact fail 5 (by decide) hu
theorem cR_readKind {Q : Int → e3_H → e3_G → Prop} {ad : Int} (had : ad = if added = true then 1 else 0) (h : c_tk t n s i H) (hnf : x_nf t n i) (hkd : c_kd σ m H) (hk : k_inv σ m) (ho : c_out t n s m added H (a_knd t n (i + 1) added σ) Q G) : wR_readKind Q ad H G := by
  have hm24 := hk.2.1
  unfold wR_readKind
  refine cT_stp h hnf (fun K1 a b => ?_)
  have kd1 := ckd_C hkd b
  have fr1 : ck_fr m added H K1 := ck_C ck_rf b
  obtain ⟨n1, n2, n3⟩ := c_now a
  unfold a_knd at ho
  rw [k_nk hk] at ho
  rw [n1, n3]
  have fail : ∀ (c : Int), c ≠ 0 → (∀ K : e3_H, K 14 4 ≠ 0 → K 14 5 = ((x_sp t n (i + 1) : Nat) : Int) → ck_fr m added H K → Q 0 K G) → wR_failHere (fun x3 H1 G2 => ((x3 : Int) = 0 ∨ x3 = 1) ∧ Q x3 H1 G2) c K1 G := by
    intro c hc hu
    exact cR_failHere a hc (fun K hf => ⟨Or.inl rfl, hu K hf.1 hf.2.1 (ck_f fr1 hf)⟩)
  refine ⟨fun h9 => ?_, fun h9 => ?_⟩
  · rw [if_neg (fun z => z h9)] at ho
    refine cK_fnd kd1 hk ?_
    rcases a_fd_rg (σ 42) (x_wo t n (i + 1)) m with hr | ⟨r1, r2, r3⟩
    · rw [hr, if_neg (fun z => z rfl)] at ho
      rw [hr]
      refine brT (by decide) ?_
      rw [n3]
      refine cK_begin kd1 hk (fun hlt K eK => ?_) (fun hge => ?_)
      · rw [if_neg (by omega)] at ho
        refine brF (by omega) ?_
        have kd2 : c_kd (a_new σ m (x_wo t n (i + 1))) (m + 1) K := by rw [eK]; exact ckd_new kd1 hk
        have hk2 := k_new (v := x_wo t n (i + 1)) hk hlt hr
        have a2 : c_tk t n s (i + 1) K := by rw [eK]; exact ctk_up (ctk_up (ctk_up (ctk_up (ctk_up a (by omega)) (by omega)) (by omega)) (by omega)) (by omega)
        have fr2 : ck_fr m added H K := by rw [eK]; exact ck_up (ck_up (ck_up (ck_up (ck_up fr1 (by omega)) (by omega)) (by omega)) (by omega)) (by omega)
        obtain ⟨q1, q2, q3, q4, q5, q6, q7⟩ := a_new_at σ m (x_wo t n (i + 1))
        generalize a_new σ m (x_wo t n (i + 1)) = σ2 at *
        refine cT_stp a2 ⟨by omega, by omega⟩ (fun K3 a3 b3 => ?_)
        have kd3 := ckd_C kd2 b3
        have fr3 := ck_C fr2 b3
        rw [(c_now a3).1]
        unfold a_knd1 at ho
        refine ⟨fun he => ?_, fun he => ?_⟩
        · rw [if_pos he] at ho
          refine c_under (H0 := H) had a3 ⟨by omega, by omega⟩ kd3 hk2 fr3 q3 (fun j σ' hu K' c1 c2 c3 c4 c5 => brF (by decide) ?_) (fun pl hu K' c1 c2 c3 => brT rfl ?_)
          · rw [hu] at ho
            exact c_k116 c1 c2 c3 (by rw [c5, q4]) c4 ho
          · rw [hu] at ho
            exact ho K' c1 c2 c3
        · rw [if_neg he] at ho
          cases added with
          | false =>
            rw [if_neg (by simp)] at had ho
            exact brT had (c_k116 a3 kd3 hk2 q4 fr3 ho)
          | true =>
            rw [if_pos rfl] at had ho
            refine brF (by omega) ?_
            exact cR_failHere a3 (by decide) (fun K' hf => ⟨Or.inl rfl, ho K' hf.1 hf.2.1 (ck_f fr3 hf)⟩)
      · rw [if_pos (by omega)] at ho
        exact brT (by decide) (fail 9 (by decide) ho)
    · rw [if_pos (by omega)] at ho
      rw [if_neg (by omega)]
      exact brF (by omega) (fail 3 (by decide) ho)
  · rw [if_pos h9] at ho
    exact fail 2 (by decide) ho
end CKE
