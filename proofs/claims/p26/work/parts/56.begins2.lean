section RB2
variable {H0 K σ : e3_H} {G : e3_G} {n i m : Nat} {t : Int → Int}
/-- a fault at the first TOKEN: to the end without any more -/
theorem bg_283f {Q : Int → e3_H → e3_G → Prop} {s mu nu tr k : Int} {q : Int} (h1 : r_tk t n i K) (h16 : 0 ≤ K 40 16 ∧ K 40 16 ≤ 1601) (hb : r_bad q H0 K) (hQ : ∀ x K', r_bad q H0 K' → Q x K' G) : ∀ pl, wM_begins_283 Q s mu pl nu tr k K G := by
  intro pl
  unfold wM_begins_283
  refine ⟨fun _ => ⟨fun _ => ⟨fun _ => bg_354 h16 hb hQ, fun _ => ⟨fun _ => bg_354 h16 hb hQ, fun _ => ?_⟩⟩, fun _ => bg_354 h16 hb hQ⟩, fun _ => bg_354 h16 hb hQ⟩
  refine cM_isSign h1 (by decide) (fun _ => brF (by decide) (bg_354 h16 hb hQ)) (fun _ => brT rfl ?_)
  exact cM_isWord h1 (by decide) (fun _ => brF (by decide) (bg_354 h16 hb hQ)) (fun _ => brT rfl (bg_354 h16 hb hQ))
def a_kc (ty : Int) : Int := if ty = 260 ∨ ty = 45 then 1 else if ty = 278 ∨ ty = 279 then 2 else if ty = 261 then 3 else if ty = 259 then 5 else if ty = 40 then 6 else if ty = 280 then 4 else 0
theorem bg_283 {Q : Int → e3_H → e3_G → Prop} {s mu pl nu tr k : Int} (h1 : r_tk t n i K) (hnu : nu = if x_ty t n i = 260 ∨ x_ty t n i = 45 then 1 else 0) (htr : tr = if x_ty t n i = 278 ∨ x_ty t n i = 279 then 1 else 0) (hQ : wM_begins_354 Q s mu pl nu k (a_kc (x_ty t n i)) K G) : wM_begins_283 Q s mu pl nu tr k K G := by
  unfold wM_begins_283
  unfold a_kc at hQ
  by_cases c1 : x_ty t n i = 260 ∨ x_ty t n i = 45
  · rw [if_pos c1] at hnu hQ
    exact brF (by omega) hQ
  rw [if_neg c1] at hnu hQ
  refine brT hnu ?_
  by_cases c2 : x_ty t n i = 278 ∨ x_ty t n i = 279
  · rw [if_pos c2] at htr hQ
    exact brF (by omega) hQ
  rw [if_neg c2] at htr hQ
  refine brT htr ?_
  by_cases c3 : x_ty t n i = 261
  · rw [if_pos c3] at hQ
    exact brT ((r_so h1).2.2.2.2.2.1.mpr c3) hQ
  rw [if_neg c3] at hQ
  refine brF (fun z => c3 ((r_so h1).2.2.2.2.2.1.mp z)) ?_
  by_cases c4 : x_ty t n i = 259
  · rw [if_pos c4] at hQ
    exact brT ((r_so h1).2.2.2.1.mpr c4) hQ
  rw [if_neg c4] at hQ
  refine brF (fun z => c4 ((r_so h1).2.2.2.1.mp z)) ?_
  refine cM_isSign h1 (by decide) (fun c5 => brF (by decide) ?_) (fun c5 => brT rfl ?_)
  · rw [if_pos c5] at hQ; exact hQ
  rw [if_neg c5] at hQ
  refine cM_isWord h1 (by decide) (fun c6 => brF (by decide) ?_) (fun c6 => brT rfl ?_)
  · rw [if_pos (by omega)] at hQ; exact hQ
  · rw [if_neg (by omega)] at hQ; exact hQ
theorem a_okp_nm {s : Int} (h : x_ty t n i = 258) : a_okp t n s i σ = (a_binds σ s (x_wo t n i)).isSome := by
  unfold a_okp
  rw [if_neg (by omega), if_pos h]
/-- from the pattern's own row on -/
theorem bg_go {Q : Int → e3_H → e3_G → Prop} {s mu nu k : Int} (hmu : mu = 0 ∨ mu = 1) (h : r_P t n i m σ K) (hst16 : σ 40 16 ≤ (i : Int)) (hfr : rp_fr H0 K) (hd : 0 ≤ K 40 32 ∧ K 40 32 < 7) (hnu : nu = if x_ty t n i = 260 ∨ x_ty t n i = 45 then 1 else 0) (hke : x_ty t n i = 259 → k = a_fd (σ 42) (x_wo t n i) (a_nk σ)) (hk0 : x_ty t n i = 259 → 0 ≤ a_fd (σ 42) (x_wo t n i) (a_nk σ))
    (hst : x_ty t n i = 95 ∨ x_ty t n i = 40 ∨ x_ty t n i = 258 ∨ x_ty t n i = 260 ∨ x_ty t n i = 45 ∨ x_ty t n i = 278 ∨ x_ty t n i = 279 ∨ x_ty t n i = 261 ∨ x_ty t n i = 280 ∨ x_ty t n i = 259) (hokp : x_ty t n i ≠ 258 → a_okp t n s i σ = true)
    (hok : ∀ j σ2 op, a_beg t n s (decide (mu = 1)) i σ = .inr (j, σ2, op) → ∀ K', r_P t n j m σ2 K' → rp_fr H0 K' → (op = false → r_sc K K') → (op = true → r_op (σ 40 16) (x_sp t n i) (σ 40 31) K K') → Q (σ 40 16) K' G)
    (hfl : ∀ q, a_beg t n s (decide (mu = 1)) i σ = .inl q → ∀ x K', r_bad q H0 K' → Q x K' G) : wM_begins_354 Q s mu (x_sp t n i) nu k (a_kc (x_ty t n i)) K G := by
  have hi := r_i h.2.1
  have hpi := h.2.2.2.2
  obtain ⟨hkk, h16, h27, h56, h31, h55⟩ := id hpi
  have hnk : a_nk σ = m := k_nk hkk
  have hm24 := hkk.2.1
  unfold wM_begins_354
  refine cM_newPattern h hfr (fun K1 g1 g2 g3 g4 g5 => ?_)
  obtain ⟨q1, q2, q3, q4, q5, q6, q7, q8, q9, q10, q11, q12⟩ := p_npat (kd := a_kc (x_ty t n i)) (s := s) hpi
  have hp1 := p_npat_inv (kd := a_kc (x_ty t n i)) (s := s) hpi hst16
  have hP1 : r_P t n i m (a_npat σ (a_kc (x_ty t n i)) s) K1 := ⟨g1, h.2.1, g2, g3, hp1⟩
  have hd1 : 0 ≤ K1 40 32 ∧ K1 40 32 < 7 := by rw [g5.1]; exact hd
  have hno : ∀ v, a_no (a_npat σ (a_kc (x_ty t n i)) s) v = a_no σ v := by
    intro v
    unfold a_no a_nm a_rn
    rw [q3, q4, q5]
  have hbn : (a_binds (a_npat σ (a_kc (x_ty t n i)) s) s (x_wo t n i)).isSome = (a_binds σ s (x_wo t n i)).isSome := by
    unfold a_binds
    rw [hno, q3, q4, q7]
    split
    · split <;> rfl
    · split <;> rfl
  have muBad : mu = 1 → a_beg t n s (decide (mu = 1)) i σ = .inl (x_sp t n i) := by
    intro hz
    unfold a_beg
    rw [if_pos (Or.inr (by rw [hz]; rfl))]
  have nmBad : x_ty t n i = 258 → a_binds σ s (x_wo t n i) = none → a_beg t n s (decide (mu = 1)) i σ = .inl (x_sp t n i) := by
    intro hz hn
    unfold a_beg
    refine if_pos (Or.inl ?_)
    rw [a_okp_nm hz, hn]
    rfl
  have okBeg : mu = 0 → a_okp t n s i σ = true → ¬ (a_okp t n s i σ = false ∨ decide (mu = 1) = true) := by
    intro hz ho hc
    rcases hc with hc | hc
    · rw [ho] at hc; cases hc
    · rw [hz] at hc; cases hc
  have hnf : x_nf t n i := ⟨by omega, by omega⟩
  -- what stands there is written, and the rest
  have wr : ∀ (σ2 K2 : e3_H) (A : Int), mu = 0 → a_okp t n s i σ = true → r_P t n i m σ2 K2 → rp_fr H0 K2 → r_sc K K2 → σ2 40 16 = σ 40 16 + 1 → σ2 46 (σ 40 16) = a_kc (x_ty t n i) → (∀ a : Int, 42 ≤ a → a ≤ 45 → σ2 a = σ a) → (σ2 40 31 = σ 40 31 ∨ x_ty t n i = 258) → (A = if x_ty t n i = 259 then k else if x_ty t n i = 278 then 1 else 0) → (x_ty t n i = 258 → ∃ k2 σ3, a_binds (a_npat σ 0 s) s (x_wo t n i) = some (k2, σ3) ∧ σ2 = e3_up σ3 53 (σ 40 16) k2) → (x_ty t n i ≠ 258 → σ2 = a_npat σ (a_kc (x_ty t n i)) s) → wM_begins_483 Q (x_sp t n i) nu k (σ 40 16) A (σ 40 16) K2 G := by
    intro σ2 K2 A hz ho p1 p2 p3 p4 p5 p6 p7 p8 p9 p10
    have hnot := okBeg hz ho
    unfold wM_begins_483
    refine ⟨by omega, ?_⟩
    intro H1 e1
    have h1 : r_P t n i m (e3_up σ2 48 (σ 40 16) A) H1 := by rw [e1]; exact r_P_up p1 (by omega)
    have f1 : rp_fr H0 H1 := by rw [e1]; exact rp_up p2 (by omega)
    have s1 : r_sc K H1 := by rw [e1]; exact sc_up p3 (by omega)
    have hd2 : 0 ≤ H1 40 32 ∧ H1 40 32 < 7 := by rw [s1.1]; exact hd
    have k46 : (e3_up σ2 48 (σ 40 16) A) 46 (σ 40 16) = a_kc (x_ty t n i) := by rw [e3_up_ne (by omega), p5]
    by_cases hnum : x_ty t n i = 260 ∨ x_ty t n i = 45
    · have hn258 : x_ty t n i ≠ 258 := by omega
      have h4 : ¬ H1 40 3 = 4 := fun z => by have := (r_so h1.1).2.2.2.2.2.1.mp z; omega
      refine brF h4 ?_
      unfold wM_begins_506
      refine ⟨by omega, ?_⟩
      intro H2 e2
      have h2 : r_P t n i m (e3_up (e3_up σ2 48 (σ 40 16) A) 50 (σ 40 16) 0) H2 := by rw [e2]; exact r_P_up h1 (by omega)
      have f2 : rp_fr H0 H2 := by rw [e2]; exact rp_up f1 (by omega)
      have s2 : r_sc K H2 := by rw [e2]; exact sc_up s1 (by omega)
      have hA : A = 0 := by rw [p8, if_neg (by omega), if_neg (by omega)]
      have eσ : e3_up (e3_up σ2 48 (σ 40 16) A) 50 (σ 40 16) 0 = a_at (a_npat σ 1 s) (σ 40 16) 0 0 := by
        rw [p10 hn258, hA]
        unfold a_at a_kc
        rw [if_pos hnum]
      rw [if_pos hnum] at hnu
      refine brT h2.2.2.2.1 (brF (by omega) ?_)
      rw [eσ] at h2
      have hbeg : a_beg t n s (decide (mu = 1)) i σ = (match a_rng t n (σ 40 16) (x_sp t n i) i (a_at (a_npat σ 1 s) (σ 40 16) 0 0) with
        | .inl q => .inl q
        | .inr (j, σ2, _) => .inr (j, σ2, false)) := by
        unfold a_beg
        rw [if_neg hnot, if_neg hn258, if_pos hnum]
        rfl
      refine cM_range h2 f2 (by omega) (fun j σ3 pp hr K3 a3 b3 c3 d3 => ?_) (fun q hr K3 hb => ?_)
      · rw [hr] at hbeg
        exact hok j σ3 false hbeg K3 a3 c3 (fun _ => sc_tr s2 d3) (fun z => by cases z)
      · rw [hr] at hbeg
        exact hfl q hbeg _ K3 hb
    · have hnu0 : nu = 0 := by rw [hnu, if_neg hnum]
      have fin : ∀ T : Int, (T = if x_ty t n i = 261 then x_wo t n i else 0) → wM_begins_506 Q (x_sp t n i) nu k (σ 40 16) T (σ 40 16) H1 G := by
        intro T hT
        rw [hnu0]
        have k44 : x_ty t n i = 259 → (e3_up σ2 48 (σ 40 16) A) 44 k = σ 44 (a_fd (σ 42) (x_wo t n i) (a_nk σ)) := by
          intro hz2
          rw [e3_up_ne (by omega), p6 44 (by omega) (by omega), hke hz2]
        have hkr : x_ty t n i = 259 → 0 ≤ k ∧ k < 24 := by
          intro hz2
          rw [hke hz2, hnk]
          have h0 := hk0 hz2
          rw [hnk] at h0
          have := a_fd_rg (σ 42) (x_wo t n i) m
          omega
        have kc5 : a_kc (x_ty t n i) = 5 ↔ x_ty t n i = 259 := by
          unfold a_kc
          rw [if_neg hnum]
          by_cases c2 : x_ty t n i = 278 ∨ x_ty t n i = 279
          · rw [if_pos c2]; omega
          rw [if_neg c2]
          by_cases c3 : x_ty t n i = 261
          · rw [if_pos c3]; omega
          rw [if_neg c3]
          by_cases c4 : x_ty t n i = 259
          · rw [if_pos c4]; omega
          rw [if_neg c4]
          by_cases c5 : x_ty t n i = 40
          · rw [if_pos c5]; omega
          rw [if_neg c5]
          by_cases c6 : x_ty t n i = 280
          · rw [if_pos c6]; omega
          rw [if_neg c6]; omega
        have kc6 : a_kc (x_ty t n i) = 6 ↔ x_ty t n i = 40 := by
          unfold a_kc
          rw [if_neg hnum]
          by_cases c2 : x_ty t n i = 278 ∨ x_ty t n i = 279
          · rw [if_pos c2]; omega
          rw [if_neg c2]
          by_cases c3 : x_ty t n i = 261
          · rw [if_pos c3]; omega
          rw [if_neg c3]
          by_cases c4 : x_ty t n i = 259
          · rw [if_pos c4]; omega
          rw [if_neg c4]
          by_cases c5 : x_ty t n i = 40
          · rw [if_pos c5]; omega
          rw [if_neg c5]
          by_cases c6 : x_ty t n i = 280
          · rw [if_pos c6]; omega
          rw [if_neg c6]; omega
        refine bg_506 (j := 0) (kd := a_kc (x_ty t n i)) h1 f1 hnf (by omega) k46 hd2 (fun hz2 => hkr (kc5.mp hz2)) (fun j σ3 op hcs e3 K3 a3 b3 c3 d3 => ?_) (fun hz2 he hz3 x K3 hb => ?_)
        · have hs31 : (e3_up σ2 48 (σ 40 16) A) 40 31 = σ2 40 31 := e3_up_ne (by omega)
          refine hok j σ3 op ?_ K3 a3 b3 (fun z => sc_tr s1 (c3 z)) (fun z => ?_)
          · rw [e3]
            unfold a_beg
            rw [if_neg hnot]
            by_cases c1 : x_ty t n i = 258
            · obtain ⟨k2, σ4, e4, e5⟩ := p9 c1
              rw [if_pos c1, e4]
              simp only
              have hA : A = 0 := by rw [p8, if_neg (by omega), if_neg (by omega)]
              have hT0 : T = 0 := by rw [hT, if_neg (by omega)]
              have n5 : ¬ a_kc (x_ty t n i) = 5 := fun q => by have := kc5.mp q; omega
              have n6 : ¬ a_kc (x_ty t n i) = 6 := fun q => by have := kc6.mp q; omega
              have : j = i + 1 ∧ op = false := by
                rcases hcs with ⟨w, _⟩ | ⟨w, _⟩ | ⟨w, _⟩ | ⟨_, _, w1, w2⟩
                · exact absurd w n5
                · exact absurd w n5
                · exact absurd w n6
                · exact ⟨w1, w2⟩
              rw [this.1, this.2, e5, hA, hT0]
              rfl
            · have e5 := p10 c1
              rw [if_neg c1, if_neg hnum, e5]
              unfold a_kc
              rw [if_neg hnum]
              unfold a_kc at hcs
              rw [if_neg hnum] at hcs
              by_cases c2 : x_ty t n i = 278
              · rw [if_pos (Or.inl c2)] at hcs ⊢
                have hA : A = 1 := by rw [p8, if_neg (by omega), if_pos c2]
                have hT0 : T = 0 := by rw [hT, if_neg (by omega)]
                have : j = i + 1 ∧ op = false := (by rcases hcs with ⟨w, _⟩ | ⟨w, _⟩ | ⟨w, _⟩ | ⟨_, _, w1, w2⟩; exact absurd w (by decide); exact absurd w (by decide); exact absurd w (by decide); exact ⟨w1, w2⟩)
                rw [if_pos c2, this.1, this.2, hA, hT0]
                rfl
              · by_cases c3 : x_ty t n i = 279
                · rw [if_pos (Or.inr c3)] at hcs ⊢
                  have hA : A = 0 := by rw [p8, if_neg (by omega), if_neg (by omega)]
                  have hT0 : T = 0 := by rw [hT, if_neg (by omega)]
                  have : j = i + 1 ∧ op = false := (by rcases hcs with ⟨w, _⟩ | ⟨w, _⟩ | ⟨w, _⟩ | ⟨_, _, w1, w2⟩; exact absurd w (by decide); exact absurd w (by decide); exact absurd w (by decide); exact ⟨w1, w2⟩)
                  rw [if_neg c2, if_pos c3, this.1, this.2, hA, hT0]
                  rfl
                · have c23 : ¬ (x_ty t n i = 278 ∨ x_ty t n i = 279) := by omega
                  rw [if_neg c23] at hcs ⊢
                  rw [if_neg c2, if_neg c3]
                  by_cases c4 : x_ty t n i = 261
                  · rw [if_pos c4] at hcs ⊢
                    have hA : A = 0 := by rw [p8, if_neg (by omega), if_neg (by omega)]
                    have hT0 : T = x_wo t n i := by rw [hT, if_pos c4]
                    have : j = i + 1 ∧ op = false := (by rcases hcs with ⟨w, _⟩ | ⟨w, _⟩ | ⟨w, _⟩ | ⟨_, _, w1, w2⟩; exact absurd w (by decide); exact absurd w (by decide); exact absurd w (by decide); exact ⟨w1, w2⟩)
                    rw [if_pos c4, this.1, this.2, hA, hT0]
                    rfl
                  · have hT0 : T = 0 := by rw [hT, if_neg c4]
                    rw [if_neg c4] at hcs ⊢
                    rw [if_neg c4]
                    by_cases c5 : x_ty t n i = 259
                    · rw [if_pos c5] at hcs ⊢
                      have hA : A = a_fd (σ 42) (x_wo t n i) (a_nk σ) := by rw [p8, if_pos c5, hke c5]
                      rw [if_neg (show ¬ x_ty t n i = 280 by omega), if_pos c5, hA, hT0]
                      have hk44 := k44 c5
                      rcases hcs with ⟨_, c6, c7, c8, c9⟩ | ⟨_, c6, c8, c9⟩ | ⟨z, _⟩ | ⟨z, _⟩
                      · rw [hk44] at c7
                        rw [if_pos c6, if_neg c7, c8, c9]
                        rfl
                      · rw [if_neg c6, c8, c9]
                        rfl
                      · exact absurd z (by decide)
                      · exact absurd rfl z
                    · have hA : A = 0 := by rw [p8, if_neg c5, if_neg (by omega)]
                      rw [if_neg c5] at hcs ⊢
                      by_cases c6 : x_ty t n i = 40
                      · rw [if_pos c6] at hcs ⊢
                        have : j = i + 1 ∧ op = true := (by rcases hcs with ⟨w, _⟩ | ⟨w, _⟩ | ⟨_, w1, w2⟩ | ⟨_, w, _⟩; exact absurd w (by decide); exact absurd w (by decide); exact ⟨w1, w2⟩; exact absurd rfl w)
                        rw [if_neg (show ¬ x_ty t n i = 280 by omega), if_neg c5, if_pos c6, this.1, this.2, hA, hT0]
                        rfl
                      · rw [if_neg c6] at hcs ⊢
                        by_cases c7 : x_ty t n i = 280
                        · rw [if_pos c7] at hcs ⊢
                          have : j = i + 1 ∧ op = false := (by rcases hcs with ⟨w, _⟩ | ⟨w, _⟩ | ⟨w, _⟩ | ⟨_, _, w1, w2⟩; exact absurd w (by decide); exact absurd w (by decide); exact absurd w (by decide); exact ⟨w1, w2⟩)
                          rw [if_pos c7, this.1, this.2, hA, hT0, if_neg c5, if_neg c6]
                          rfl
                        · rw [if_neg c7] at hcs ⊢
                          have : j = i + 1 ∧ op = false := (by rcases hcs with ⟨w, _⟩ | ⟨w, _⟩ | ⟨w, _⟩ | ⟨_, _, w1, w2⟩; exact absurd w (by decide); exact absurd w (by decide); exact absurd w (by decide); exact ⟨w1, w2⟩)
                          rw [if_neg c7, if_neg c5, if_neg c6, this.1, this.2, hA, hT0]
                          rfl
          · have ho := d3 z
            have h31' : (e3_up σ2 48 (σ 40 16) A) 40 31 = σ 40 31 := by
              rw [hs31]
              rcases p7 with y | y
              · exact y
              · exfalso
                have n5 : ¬ a_kc (x_ty t n i) = 5 := fun q => by have := kc5.mp q; omega
                have n6 : ¬ a_kc (x_ty t n i) = 6 := fun q => by have := kc6.mp q; omega
                rcases hcs with ⟨w, _⟩ | ⟨w, _⟩ | ⟨w, _⟩ | ⟨_, _, _, w⟩
                · exact n5 w
                · exact n5 w
                · exact n6 w
                · rw [z] at w; cases w
            rw [h31'] at ho
            obtain ⟨o1, o2, o3, o4, o5, o6, o7, o8, o9⟩ := ho
            rw [s1.1] at o1 o2 o4 o5 o6 o7 o8 o9
            exact ⟨o1, fun a k a1 a2 a3 => (o2 a k a1 a2 a3).trans (s1.2 a k a1 (by omega)), fun k => (o3 k).trans (s1.2 66 k (by omega) (by omega)), o4, o5, o6, o7, o8, o9⟩
        · have c5 := kc5.mp hz2
          rw [k44 c5] at hz3
          refine hfl _ ?_ x K3 hb
          unfold a_beg
          rw [if_neg hnot, if_neg (by omega), if_neg hnum, if_neg (by omega), if_neg (by omega), if_neg (by omega), if_neg (by omega), if_pos c5, if_pos he, if_pos hz3]
      have r4 := (r_so h1.1).2.2.2.2.2.1
      refine ⟨fun z => ?_, fun z => fin 0 (by rw [if_neg (fun y => z (r4.mpr y))])⟩
      have c4 := r4.mp z
      have e4 := (r_va h1.1 (by omega)).1 (by omega) (by omega)
      rw [e4]
      exact fin _ (by rw [if_pos c4])
  -- 450: what stands there
  have b450 : ∀ (σ2 K2 : e3_H), mu = 0 → a_okp t n s i σ = true → r_P t n i m σ2 K2 → rp_fr H0 K2 → r_sc K K2 → σ2 40 16 = σ 40 16 + 1 → σ2 46 (σ 40 16) = a_kc (x_ty t n i) → (∀ a : Int, 42 ≤ a → a ≤ 45 → σ2 a = σ a) → (σ2 40 31 = σ 40 31 ∨ x_ty t n i = 258) → (x_ty t n i = 258 → ∃ k2 σ3, a_binds (a_npat σ 0 s) s (x_wo t n i) = some (k2, σ3) ∧ σ2 = e3_up σ3 53 (σ 40 16) k2) → (x_ty t n i ≠ 258 → σ2 = a_npat σ (a_kc (x_ty t n i)) s) → wM_begins_450 Q (x_sp t n i) nu k (σ 40 16) K2 G := by
    intro σ2 K2 hz ho p1 p2 p3 p4 p5 p6 p7 p9 p10
    unfold wM_begins_450
    refine ⟨fun z => ?_, fun z => ?_⟩
    · have c5 := (r_so p1.1).2.2.2.1.mp z
      exact wr σ2 K2 k hz ho p1 p2 p3 p4 p5 p6 p7 (by rw [if_pos c5]) p9 p10
    · have c5 : ¬ x_ty t n i = 259 := fun y => z ((r_so p1.1).2.2.2.1.mpr y)
      refine cM_isWord p1.1 (by decide) (fun he => brF (by decide) ?_) (fun he => brT rfl ?_)
      · exact wr σ2 K2 1 hz ho p1 p2 p3 p4 p5 p6 p7 (by rw [if_neg c5, if_pos (by omega)]) p9 p10
      · exact wr σ2 K2 0 hz ho p1 p2 p3 p4 p5 p6 p7 (by rw [if_neg c5, if_neg (by omega)]) p9 p10
  have b409 : (x_ty t n i = 258 → mu = 0 → a_no σ (x_wo t n i) < 0 ∨ b_bit (σ 40 31) (a_no σ (x_wo t n i)).toNat = false) → wM_begins_409 Q s mu (x_sp t n i) nu k (σ 40 16) K1 G := by
    intro hfree
    unfold wM_begins_409
    refine ⟨fun hz => ?_, fun hz => ?_⟩
    · unfold wM_begins_420
      refine brT g3 ⟨fun h1 => ?_, fun h1 => ?_⟩
      · have c1 := (r_so g1).2.2.1.mp h1
        have kc0 : a_kc (x_ty t n i) = 0 := by
          unfold a_kc
          rw [if_neg (by omega), if_neg (by omega), if_neg (by omega), if_neg (by omega), if_neg (by omega), if_neg (by omega)]
        refine cM_binds hP1 c1 g4 (fun k2 σ2 hb K2 a2 b2 c2 => ?_) (fun hb K2 hf => ?_)
        · have hsome : (a_binds σ s (x_wo t n i)).isSome = true := by rw [← hbn, hb]; rfl
          obtain ⟨u1, u2, u3, u4, u5, u6⟩ := p_bind hp1 hb
          refine ⟨by omega, ?_⟩
          intro H4 e4
          rw [kc0] at hb
          refine b450 (e3_up σ2 53 (σ 40 16) k2) H4 hz (by rw [a_okp_nm c1]; exact hsome) (by rw [e4]; exact r_P_up a2 (by omega)) (by rw [e4]; exact rp_up b2 (by omega)) (by rw [e4]; exact sc_up (sc_tr g5 c2) (by omega)) ?_ ?_ ?_ (Or.inr c1) (fun _ => ⟨k2, σ2, hb, rfl⟩) (fun y => absurd c1 y)
          · rw [e3_up_ne (by omega), u2, q2]
          · rw [e3_up_ne (by omega), u3 46 (by omega) (by omega) (by omega) (by omega), q8]
          · intro a ha1 ha2
            funext q
            rw [e3_up_ne (by omega), u3 a (by omega) (by omega) (by omega) (by omega), q12 a ha1 ha2]
        · have hn : a_binds σ s (x_wo t n i) = none := by
            cases hx : a_binds σ s (x_wo t n i) with
            | none => rfl
            | some y => rw [hx, hb] at hbn; cases hbn
          have hfl2 := hfl _ (nmBad c1 hn)
          refine ⟨by omega, ?_⟩
          intro H4 e4
          have bd : r_bad (x_sp t n i) H0 H4 := ⟨by rw [e4, e3_up_ne (by omega)]; exact hf.1, by rw [e4, e3_up_ne (by omega)]; exact hf.2.1, by rw [e4]; exact rp_up (rp_f g4 hf) (by omega)⟩
          have tk4 : r_tk t n i H4 := by
            have hf3 : ∀ a k : Int, a ≠ 40 → K2 a k = K1 a k := fun a k ha => hf.2.2.2.1 a k (by simp only [List.mem_cons, List.not_mem_nil, or_false]; exact ha)
            obtain ⟨w1, w2, w3, w4, w5⟩ := g1
            have : r_tk t n i K2 := ⟨by rw [hf.2.2.1 1 (by omega) (by omega)]; exact w1, by rw [← w2]; funext k; exact hf3 41 k (by omega), by rw [hf.2.2.1 5 (by omega) (by omega)]; exact w3, by rw [hf.2.2.1 3 (by omega) (by omega)]; exact w4, fun y => by rw [hf.2.2.1 4 (by omega) (by omega), hf.2.2.1 6 (by omega) (by omega)]; exact w5 y⟩
            rw [e4]
            exact r_tk_up this (by omega) (by omega)
          have f506 : ∀ T K5, r_bad (x_sp t n i) H0 K5 → wM_begins_506 Q (x_sp t n i) nu k (σ 40 16) T (σ 40 16) K5 G := by
            intro T K5 hb5
            unfold wM_begins_506
            refine ⟨by omega, ?_⟩
            intro H1 e1
            have z1 : H1 40 7 ≠ 0 := by rw [e1, e3_up_ne (by omega)]; exact hb5.1
            exact brF z1 (hfl2 _ H1 ⟨z1, by rw [e1, e3_up_ne (by omega)]; exact hb5.2.1, by rw [e1]; exact rp_up hb5.2.2 (by omega)⟩)
          have f483 : ∀ A K5, r_bad (x_sp t n i) H0 K5 → wM_begins_483 Q (x_sp t n i) nu k (σ 40 16) A (σ 40 16) K5 G := by
            intro A K5 hb5
            unfold wM_begins_483
            refine ⟨by omega, ?_⟩
            intro H1 e1
            have b1 : r_bad (x_sp t n i) H0 H1 := ⟨by rw [e1, e3_up_ne (by omega)]; exact hb5.1, by rw [e1, e3_up_ne (by omega)]; exact hb5.2.1, by rw [e1]; exact rp_up hb5.2.2 (by omega)⟩
            exact ⟨fun _ => f506 _ H1 b1, fun _ => f506 _ H1 b1⟩
          unfold wM_begins_450
          refine ⟨fun _ => f483 _ H4 bd, fun _ => ?_⟩
          exact cM_isWord tk4 (by decide) (fun _ => brF (by decide) (f483 _ H4 bd)) (fun _ => brT rfl (f483 _ H4 bd))
      · have c1 : x_ty t n i ≠ 258 := fun y => h1 ((r_so g1).2.2.1.mpr y)
        exact b450 _ K1 hz (hokp c1) hP1 g4 g5 q2 q8 q12 (Or.inl q7) (fun y => absurd y c1) (fun _ => rfl)
    · have hz1 : mu = 1 := by omega
      exact cM_fl g3 (by decide) (fun K' hf => bg_420 ⟨hf.1, hf.2.1, rp_f g4 hf⟩ (hfl _ (muBad hz1)))
  refine ⟨fun h1 => brT g3 ?_, fun h1 => b409 (fun y => absurd ((r_so g1).2.2.1.mpr y) h1)⟩
  have c1 := (r_so g1).2.2.1.mp h1
  have e4 := (r_va g1 (by omega)).1 (by omega) (by omega)
  rw [e4]
  refine cM_nameOf g2 hp1 ?_
  rw [hno]
  have hr := a_fd_rg (a_rn σ) (x_wo t n i) (a_nm σ)
  have hr2 : a_no σ (x_wo t n i) = a_fd (a_rn σ) (x_wo t n i) (a_nm σ) := rfl
  have hnm : (a_nm σ : Int) ≤ 8 := by unfold a_nm; omega
  refine ⟨fun hneg => b409 (fun _ _ => Or.inl hneg), fun hneg => ?_⟩
  have e31 : K1 40 31 = σ 40 31 := by rw [r_N_f g2 31 (by omega), q7]
  have hb := b_ok (k := (a_no σ (x_wo t n i)).toNat) h31 (by omega)
  rw [Int.toNat_of_nonneg (by omega)] at hb
  rw [e31]
  refine ⟨fun hbit => ?_, fun hbit => ?_⟩
  · have hn : a_binds σ s (x_wo t n i) = none := by
      unfold a_binds
      rw [if_neg hneg, if_pos (hb.1.mp hbit)]
    exact cM_fl g3 (by decide) (fun K' hf => bg_409 ⟨hf.1, hf.2.1, rp_f g4 hf⟩ (hfl _ (nmBad c1 hn)))
  · refine b409 (fun _ _ => Or.inr ?_)
    cases hz : b_bit (σ 40 31) (a_no σ (x_wo t n i)).toNat with
    | false => rfl
    | true => exact absurd (hb.1.mpr hz) hbit
end RB2
