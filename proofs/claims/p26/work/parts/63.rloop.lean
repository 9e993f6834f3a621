/-- the loop of the reference's readPattern behind `as` -/
def w_aft (Q : Int → e3_H → e3_G → Prop) (nn : Nat) (l3 l4 : Int) (H4 : e3_H) (G5 : e3_G) : Prop := ((((H4 40 32) : Int) = 0 → (wM_readPattern_208 Q l3 H4 G5)) ∧ (¬ (((H4 40 32) : Int) = 0) → (wM_comesInto (fun H7 G8 => (wM_goesOn (fun x12 H10 G11 => (((x12 : Int) = 0 → ((((H10 40 7) : Int) = 0 → ∀ H13 : e3_H, H13 = e3_up H10 40 32 (e3_w32 ((H10 40 32) - 1)) → ((0 : Int) ≤ (H13 40 32) ∧ ((H13 40 32) : Int) < 8) ∧ (wM_readPattern_15 Q nn (H13 59 (H13 40 32)) (H13 40 32) H13 G11)) ∧ (¬ (((H10 40 7) : Int) = 0) → (wM_readPattern_15 Q nn l3 l4 H10 G11)))) ∧ (¬ ((x12 : Int) = 0) → ((0 : Int) ≤ (e3_w32 ((H10 40 32) - 1)) ∧ ((e3_w32 ((H10 40 32) - 1)) : Int) < 8) ∧ ((0 : Int) ≤ (H10 59 (e3_w32 ((H10 40 32) - 1))) ∧ ((H10 59 (e3_w32 ((H10 40 32) - 1))) : Int) < 1700) ∧ ((((H10 46 (H10 59 (e3_w32 ((H10 40 32) - 1)))) : Int) = 6 → ((0 : Int) ≤ (e3_w32 ((H10 40 32) - 1)) ∧ ((e3_w32 ((H10 40 32) - 1)) : Int) < 8) ∧ ((((H10 60 (e3_w32 ((H10 40 32) - 1))) : Int) = 6 → (wM_readPattern_139 Q (fun l3 l4 H G => wM_readPattern_15 Q nn l3 l4 H G) l4 1 H10 G11)) ∧ (¬ (((H10 60 (e3_w32 ((H10 40 32) - 1))) : Int) = 6) → (wM_readPattern_138 Q (fun l3 l4 H G => wM_readPattern_15 Q nn l3 l4 H G) l4 H10 G11)))) ∧ (¬ (((H10 46 (H10 59 (e3_w32 ((H10 40 32) - 1)))) : Int) = 6) → (wM_readPattern_138 Q (fun l3 l4 H G => wM_readPattern_15 Q nn l3 l4 H G) l4 H10 G11)))))) H7 G8)) l3 H4 G5)))
def r_lw (d : Int) (K K2 : e3_H) : Prop := (∀ a k : Int, 59 ≤ a → a ≤ 65 → k < d → K2 a k = K a k) ∧ ∀ k : Int, k < 8 * d → K2 66 k = K 66 k
theorem lw_tr {d : Int} {K K2 K3 : e3_H} (h : r_lw d K K2) (h2 : r_lw d K2 K3) : r_lw d K K3 := ⟨fun a k h1 h3 h4 => (h2.1 a k h1 h3 h4).trans (h.1 a k h1 h3 h4), fun k h1 => (h2.2 k h1).trans (h.2 k h1)⟩
theorem lw_lo {d e : Int} {K K2 : e3_H} (h : r_lo e K K2) (he : d ≤ e) : r_lw d K K2 := ⟨fun a k h1 h3 h4 => h.2.1 a k h1 h3 (by omega), fun k h1 => h.2.2 k (by omega)⟩
section RL
variable {H0 : e3_H} {G : e3_G} {n m : Nat} {t : Int → Int}
theorem lp_bad {Q : Int → e3_H → e3_G → Prop} {q : Int} {K : e3_H} {N : Nat} {x b : Int} (hN : 1 ≤ N) (hb : r_bad q H0 K) (hQ : ∀ x K', r_bad q H0 K' → Q x K' G) : wM_readPattern_15 Q N x b K G := by
  obtain ⟨N1, rfl⟩ : ∃ N1, N = N1 + 1 := ⟨N - 1, by omega⟩
  unfold wM_readPattern_15 wM_readPattern_208
  exact brF hb.1 (hQ _ K hb)
theorem lp_as {Q : Int → e3_H → e3_G → Prop} {p : Int} {K σ : e3_H} {N i d : Nat} (h : r_P t n i m σ K) (hfr : rp_fr H0 K) (hd : K 40 32 = (d : Int)) (hp : 0 ≤ p ∧ p < 1700)
    (hok : ∀ j σ2 p2, a_as t n (.inr (i, σ, p)) = .inr (j, σ2, p2) → ∀ K', r_P t n j m σ2 K' → i ≤ j → rp_fr H0 K' → r_sc K K' → w_aft Q N p d K' G)
    (hfl : ∀ q, a_as t n (.inr (i, σ, p)) = .inl q → ∀ x K', r_bad q H0 K' → Q x K' G) : wM_readPattern_15 Q (N + 1) p d K G := by
  unfold wM_readPattern_15
  refine brT h.2.2.2.1 (brF (by omega) (cM_readAs h hfr hp (fun j σ2 p2 he K' a b c e => brT a.2.2.2.1 (hok j σ2 p2 he K' a b c e)) (fun q he K' hb => brF hb.1 (hfl q he _ K' hb))))
theorem a_alts_eq {g : Bool → Nat → e3_H → a_R} {p pl b0 last fst q : Int} {srt : Nat → Int} {un : Bool} {i i2 rem jj : Nat} {σ σ3 : e3_H} (hq : g (decide (jj = 6)) i σ = .inr (i2, σ3, q)) : a_alts t n g p pl b0 (rem + 1) jj last fst srt un i σ =
    (if x_ty t n i2 = 124 then a_alts t n g p pl b0 rem (jj + 1) q (a_fst ((jj : Int) + 1) (a_into σ3 p last q) fst) (a_sr ((jj : Int) + 1) (a_into σ3 p last q) srt) (a_un ((jj : Int) + 1) (a_into σ3 p last q) b0 fst srt un) (i2 + 1) (e3_up (a_into σ3 p last q) 40 31 b0)
      else if x_ty t n i2 = 41 then (if a_un ((jj : Int) + 1) (a_into σ3 p last q) b0 fst srt un = true then .inl pl else .inr (i2 + 1, a_srt (e3_up (a_into σ3 p last q) 40 31 (a_fst ((jj : Int) + 1) (a_into σ3 p last q) fst)) (a_sr ((jj : Int) + 1) (a_into σ3 p last q) srt) 8, p))
      else .inl (x_sp t n i2)) := by
  conv => lhs; unfold a_alts
  rw [hq]
  have e27 : a_into σ3 p last q 40 27 = σ3 40 27 := a_into_at 40 27 (by omega) (by omega) (by omega)
  unfold a_fst a_sr a_un
  rw [e27]
  by_cases c : jj = 0
  · have c2 : (jj : Int) + 1 = 1 := by omega
    simp only [if_pos c, if_pos c2]
  · have c2 : ¬ (jj : Int) + 1 = 1 := by omega
    simp only [if_neg c, if_neg c2]
theorem rd_pat {Q : Int → e3_H → e3_G → Prop} : ∀ (f : Nat) (s : Int) (d : Nat) (mu : Bool) (muI : Int) (i : Nat) (σ K : e3_H) (N : Nat), d + f = 7 → 1 ≤ f → (muI = if mu = true ∨ d = 6 then 1 else 0) → r_P t n i m σ K → σ 40 16 ≤ (i : Int) → rp_fr H0 K → K 40 32 = (d : Int) → (0 ≤ s ∧ s < 3 + m) → 1700 ≤ N + i → ∀ C : Int → e3_H → e3_G → Prop, (∀ x K', wM_readPattern_15 Q N x d K' G → C x K' G) →
    (∀ q, a_pat t n f s d mu i σ = .inl q → ∀ x K', r_bad q H0 K' → Q x K' G) →
    (∀ j σ2 p, a_pat t n f s d mu i σ = .inr (j, σ2, p) → ∀ N' K', 1700 ≤ N' + j → r_P t n j m σ2 K' → rp_fr H0 K' → r_lo d K K' → w_aft Q N' p d K' G) →
    wM_begins C s muI K G := by
  intro f
  induction f with
  | zero => intro s d mu muI i σ K N _ h; omega
  | succ f ih =>
    intro s d mu muI i σ K N hdf _ hmu h hst hfr hd hs hN C hC hbad hok
    have hi := r_i h.2.1
    have hpi := h.2.2.2.2
    have hp0 := hpi.2.1.1
    have hmu01 : muI = 0 ∨ muI = 1 := by rw [hmu]; split <;> simp
    have hmud : decide (muI = 1) = (mu || decide (6 ≤ d)) := by
      rw [hmu]
      by_cases c : mu = true ∨ d = 6
      · rw [if_pos c]
        rcases c with c | c
        · rw [c]; rfl
        · rw [decide_eq_true (show 6 ≤ d by omega)]; simp
      · rw [if_neg c]
        have c1 : mu = false := by cases hz : mu with
          | false => rfl
          | true => exact absurd (Or.inl hz) c
        rw [c1, decide_eq_false (show ¬ 6 ≤ d by omega)]; rfl
    refine cM_begins hmu01 h hst hfr (by omega) hs (fun j σ2 op hb K1 g1 g2 g3 g4 => hC _ _ ?_) (fun q hb x K1 hbd => hC _ _ ?_)
    · rw [hmud] at hb
      obtain ⟨b1, b2, b3, b4, b5, b6, b7, b8, b9, b10⟩ := a_beg_ok hb hpi hst
      have hap : a_pat t n (f + 1) s d mu i σ = a_as t n (if op = true then a_rest t n f s d i σ j σ2 else .inr (j, σ2, σ 40 16)) := by
        rw [a_pat_beg, hb]
      rw [hap] at hbad hok
      obtain ⟨N1, rfl⟩ : ∃ N1, N = N1 + 1 := ⟨N - 1, by omega⟩
      cases op with
      | false =>
        simp only [Bool.false_eq_true, if_false] at hbad hok
        have hsc := g3 rfl
        refine lp_as g1 g2 (by rw [hsc.1, hd]) (by omega) (fun j2 σ3 p2 he K2 a b c e => ?_) (fun q he => hbad q he)
        have := (a_as_ok (p0 := σ 40 16) he b3 (by omega)).1
        subst this
        exact hok j2 σ3 _ he N1 K2 (by omega) a c (lo_tr (lo_sc hsc) (lo_sc e))
      | true =>
        simp only [if_true] at hbad hok
        obtain ⟨o1, o2, o3, o4, o5, o6, o7, o8, o9⟩ := g4 rfl
        rw [hd] at o1 o2 o4 o5 o6 o7 o8 o9
        have hlw1 : r_lw d K K1 := ⟨fun a k h1 h2 h3 => o2 a k h1 h2 (by omega), fun k _ => o3 k⟩
        have f1 : 1 ≤ f := by
          by_cases c : d = 6
          · exfalso
            rw [decide_eq_true (show 6 ≤ d by omega)] at hb
            unfold a_beg at hb
            rw [if_pos (Or.inr (by simp))] at hb
            cases hb
          · omega
        have resume : ∀ (j3 : Nat) (σ3 : e3_H), a_rest t n f s d i σ j σ2 = .inr (j3, σ3, σ 40 16) → p_inv σ3 m j3 → ∀ (N' : Nat) (K' : e3_H), 1701 ≤ N' + j3 → r_P t n j3 m σ3 K' → rp_fr H0 K' → K' 40 32 = (d : Int) → r_lw d K1 K' → wM_readPattern_15 Q N' (σ 40 16) d K' G := by
          intro j3 σ3 hr hp3 N' K' hN' a b c e
          have hj3 := r_i a.2.1
          obtain ⟨N2, rfl⟩ : ∃ N2, N' = N2 + 1 := ⟨N' - 1, by omega⟩
          rw [hr] at hbad hok
          have hlw := lw_tr hlw1 e
          refine lp_as a b c (by omega) (fun j2 σ4 p2 he K2 a2 b2 c2 e2 => ?_) (fun q he => hbad q he)
          have := (a_as_ok (p0 := σ 40 16) he hp3 (by omega)).1
          subst this
          exact hok j2 σ4 _ he N2 K2 (by omega) a2 c2 (lo_tr ⟨by rw [c, hd], hlw.1, hlw.2⟩ (lo_sc e2))
        have rbad : ∀ q, a_rest t n f s d i σ j σ2 = .inl q → ∀ x K', r_bad q H0 K' → Q x K' G := by
          intro q hr
          rw [hr] at hbad
          exact hbad q rfl
        unfold wM_readPattern_15
        refine brT g1.2.2.2.1 (brT (by omega) ?_)
        rcases (b10 rfl).2 with ⟨c1, c2, c3, c4, c5, c6⟩ | ⟨c1, c2⟩
        · -- PARTS of a KIND
          have hm24 := hpi.1.2.1
          have e44 : σ2 44 = σ 44 := b4.2.2.1 44 (by omega) (by omega)
          have h44 := hpi.1.2.2.2.2 (a_fd (σ 42) (x_wo t n i) (a_nk σ)).toNat (by omega)
          rw [Int.toNat_of_nonneg c4] at h44
          unfold a_rest at rbad resume
          rw [if_pos c1] at rbad
          generalize hkd : a_fd (σ 42) (x_wo t n i) (a_nk σ) = kd at *
          generalize hp : σ 40 16 = p at *
          have kids : ∀ (rem jj : Nat) (last : Int) (i1 : Nat) (σ1 K2 : e3_H) (N' : Nat) (mI : Int), (mI = if d + 1 = 6 then 1 else 0) → (jj + (rem + 1) : Int) = σ 44 kd → r_P t n i1 m σ1 K2 → σ1 40 16 ≤ (i1 : Int) → rp_fr H0 K2 → K2 40 32 = (d : Int) + 1 → r_lw d K1 K2 → K2 59 d = p → K2 60 d = (jj : Int) → K2 61 d = last → p < σ1 40 16 → (last = -4 ∨ (p ≤ last ∧ last < σ1 40 16)) → σ1 46 p = 5 → σ1 48 p = kd → σ1 44 = σ 44 → 1700 ≤ N' + i1 →
              (∀ q, a_kids t n (fun s2 i2 σ2 => a_pat t n f s2 (d + 1) false i2 σ2) p kd (rem + 1) jj last i1 σ1 = .inl q → ∀ x K', r_bad q H0 K' → Q x K' G) →
              (∀ j3 σ3, a_kids t n (fun s2 i2 σ2 => a_pat t n f s2 (d + 1) false i2 σ2) p kd (rem + 1) jj last i1 σ1 = .inr (j3, σ3, p) → p_inv σ3 m j3 → ∀ (N' : Nat) (K' : e3_H), 1701 ≤ N' + j3 → r_P t n j3 m σ3 K' → rp_fr H0 K' → K' 40 32 = (d : Int) → r_lw d K1 K' → wM_readPattern_15 Q N' p d K' G) →
              wM_begins (fun x K' G' => wM_readPattern_15 Q N' x ((d : Int) + 1) K' G') (σ1 45 (4 * kd + jj)) mI K2 G := by
            intro rem
            induction rem with
            | zero =>
              intro jj last i1 σ1 K2 N' mI hmI hjr k1 k2 k3 k4 k5 k6 k7 k8 k9 k10 k11 k12 k13 k14 kb ko
              have hso := a_sort_in (jj := jj) k1.2.2.2.2 ⟨c4, c5⟩ (by rw [k13]; omega)
              have key := ih (σ1 45 (4 * kd + jj)) (d + 1) false mI i1 σ1 K2 N' (by omega) f1 (by rw [hmI]; simp) k1 k2 k3 (by rw [k4]; omega) hso k14 (fun x K' G' => wM_readPattern_15 Q N' x ((d : Int) + 1) K' G') (fun _ _ h => by rw [show ((d + 1 : Nat) : Int) = (d : Int) + 1 by omega] at h; exact h)
              refine key (fun q hq => kb q (by unfold a_kids; rw [hq])) (fun i2 σ3 q hq N2 K3 hN2 l1 l2 l3 => ?_)
              obtain ⟨d1, d2, d3, d4, d5, d6⟩ := a_pat_ok _ _ _ _ _ _ _ _ _ hq k1.2.2.2.2 k2
              have hi2 := r_i l1.2.1
              unfold w_aft
              rw [show ((d + 1 : Nat) : Int) = (d : Int) + 1 by omega] at l3
              have m59 : K3 59 d = p := by rw [l3.2.1 59 d (by omega) (by omega) (by omega)]; exact k6
              have m60 : K3 60 d = (jj : Int) := by rw [l3.2.1 60 d (by omega) (by omega) (by omega)]; exact k7
              have m61 : K3 61 d = last := by rw [l3.2.1 61 d (by omega) (by omega) (by omega)]; exact k8
              have m32 : K3 40 32 = (d : Int) + 1 := by rw [l3.1]; exact k4
              refine brF (by omega) ?_
              refine cM_comesInto l1 l2 m32 (by omega) m59 m60 m61 (by omega) (by omega) (by omega) (by omega) (by omega) (fun K4 n1 n2 n3 n4 n5 n6 n7 => ?_)
              have x46 : a_into σ3 p last q 46 p = 5 := by rw [a_into_at 46 p (by omega) (by omega) (by omega), d6.2.2.2.1 46 p (by omega) (by omega) (by omega)]; exact k11
              have x48 : a_into σ3 p last q 48 p = kd := by rw [a_into_at 48 p (by omega) (by omega) (by omega), d6.2.2.2.1 48 p (by omega) (by omega) (by omega)]; exact k12
              have x44 : a_into σ3 p last q 44 kd = σ 44 kd := by rw [a_into_at 44 kd (by omega) (by omega) (by omega), d6.2.2.1 44 (by omega) (by omega), k13]
              have y59 : K4 59 d = p := by rw [n4 59 (by omega) (by omega) (by omega) (by omega)]; exact m59
              have hlw4 : r_lw d K1 K4 := lw_tr (lw_tr k5 (lw_lo l3 (by omega))) (lw_lo n3 (by omega))
              refine cM_goK n1 n2 (by rw [n3.1]; exact m32) (by omega) y59 (by omega) n6 x46 x48 (by omega) (fun hz => by rw [x44] at hz; omega) (fun hz => by rw [x44] at hz; omega) (fun _ he K5 q1 q2 q3 => brT rfl (brT q1.2.2.2.1 ?_)) (fun _ he K5 hb => brT rfl (brF hb.1 (lp_bad (by omega) hb (kb _ ?_))))
              · intro H13 e13
                have y32 : K5 40 32 = (d : Int) + 1 := by rw [q3.1, n3.1]; exact m32
                rw [y32, e3_w32_id (by omega) (by omega), show (d : Int) + 1 - 1 = d by omega] at e13
                have z32 : H13 40 32 = (d : Int) := by rw [e13]; simp (disch := omega) only [e3_up_self, e3_up_ne]
                have z59 : H13 59 d = p := by rw [e13]; simp (disch := omega) only [e3_up_self, e3_up_ne]; rw [q3.2 59 d (by omega) (by omega)]; exact y59
                rw [z32, z59]
                refine ⟨by omega, ?_⟩
                have heq : a_kids t n (fun s2 i2 σ2 => a_pat t n f s2 (d + 1) false i2 σ2) p kd (0 + 1) jj last i1 σ1 = .inr (i2 + 1, a_into σ3 p last q, p) := by
                  unfold a_kids
                  rw [hq]
                  simp only [if_true, if_pos he]
                refine ko (i2 + 1) _ heq (p_inv_le n1.2.2.2.2 (by omega)) N2 H13 (by omega) ?_ ?_ z32 ?_
                · rw [e13]; exact r_P_s q1 (by omega)
                · rw [e13]; exact rp_up q2 (by omega)
                · rw [e13]
                  exact lw_tr hlw4 ⟨fun a k h1 h2 h3 => by simp (disch := omega) only [e3_up_self, e3_up_ne]; exact q3.2 a k h1 (by omega), fun k h1 => by simp (disch := omega) only [e3_up_self, e3_up_ne]; exact q3.2 66 k (by omega) (by omega)⟩
              · unfold a_kids
                rw [hq]
                simp only [if_true, if_neg he]
            | succ rem ihr =>
              intro jj last i1 σ1 K2 N' mI hmI hjr k1 k2 k3 k4 k5 k6 k7 k8 k9 k10 k11 k12 k13 k14 kb ko
              have hso := a_sort_in (jj := jj) k1.2.2.2.2 ⟨c4, c5⟩ (by rw [k13]; omega)
              have key := ih (σ1 45 (4 * kd + jj)) (d + 1) false mI i1 σ1 K2 N' (by omega) f1 (by rw [hmI]; simp) k1 k2 k3 (by rw [k4]; omega) hso k14 (fun x K' G' => wM_readPattern_15 Q N' x ((d : Int) + 1) K' G') (fun _ _ h => by rw [show ((d + 1 : Nat) : Int) = (d : Int) + 1 by omega] at h; exact h)
              refine key (fun q hq => kb q (by unfold a_kids; rw [hq])) (fun i2 σ3 q hq N2 K3 hN2 l1 l2 l3 => ?_)
              obtain ⟨d1, d2, d3, d4, d5, d6⟩ := a_pat_ok _ _ _ _ _ _ _ _ _ hq k1.2.2.2.2 k2
              have hi2 := r_i l1.2.1
              unfold w_aft
              rw [show ((d + 1 : Nat) : Int) = (d : Int) + 1 by omega] at l3 ⊢
              have m59 : K3 59 d = p := by rw [l3.2.1 59 d (by omega) (by omega) (by omega)]; exact k6
              have m60 : K3 60 d = (jj : Int) := by rw [l3.2.1 60 d (by omega) (by omega) (by omega)]; exact k7
              have m61 : K3 61 d = last := by rw [l3.2.1 61 d (by omega) (by omega) (by omega)]; exact k8
              have m32 : K3 40 32 = (d : Int) + 1 := by rw [l3.1]; exact k4
              refine brF (by omega) ?_
              refine cM_comesInto l1 l2 m32 (by omega) m59 m60 m61 (by omega) (by omega) (by omega) (by omega) (by omega) (fun K4 n1 n2 n3 n4 n5 n6 n7 => ?_)
              have x46 : a_into σ3 p last q 46 p = 5 := by rw [a_into_at 46 p (by omega) (by omega) (by omega), d6.2.2.2.1 46 p (by omega) (by omega) (by omega)]; exact k11
              have x48 : a_into σ3 p last q 48 p = kd := by rw [a_into_at 48 p (by omega) (by omega) (by omega), d6.2.2.2.1 48 p (by omega) (by omega) (by omega)]; exact k12
              have x44' : a_into σ3 p last q 44 = σ 44 := by funext y; rw [a_into_at 44 y (by omega) (by omega) (by omega), d6.2.2.1 44 (by omega) (by omega), k13]
              have x44 : a_into σ3 p last q 44 kd = σ 44 kd := by rw [x44']
              have y59 : K4 59 d = p := by rw [n4 59 (by omega) (by omega) (by omega) (by omega)]; exact m59
              have x16 : a_into σ3 p last q 40 16 = σ3 40 16 := a_into_at 40 16 (by omega) (by omega) (by omega)
              have hlw4 : r_lw d K1 K4 := lw_tr (lw_tr k5 (lw_lo l3 (by omega))) (lw_lo n3 (by omega))
              refine cM_goK n1 n2 (by rw [n3.1]; exact m32) (by omega) y59 (by omega) n6 x46 x48 (by omega) (fun _ he K5 q1 q2 q3 => brF (by decide) ?_) (fun _ he K5 hb => brT rfl (brF hb.1 (lp_bad (by omega) hb (kb _ ?_)))) (fun hz => by rw [x44] at hz; omega) (fun hz => by rw [x44] at hz; omega)
              · have y32 : K5 40 32 = (d : Int) + 1 := by rw [q3.1, n3.1]; exact m32
                have z59 : K5 59 d = p := by rw [q3.2 59 d (by omega) (by omega)]; exact y59
                have z60 : K5 60 d = ((jj + 1 : Nat) : Int) := by rw [q3.2 60 d (by omega) (by omega), n6]; omega
                have z46 : K5 46 p = 5 := by rw [r_N_at q1.2.2.1 46 (by omega)]; exact x46
                rw [y32, e3_w32_id (x := (d : Int) + 1 - 1) (by omega) (by omega), show (d : Int) + 1 - 1 = d by omega, z59, z46]
                refine ⟨by omega, by omega, brF (by decide) ?_⟩
                unfold wM_readPattern_138 wM_readPattern_139 wM_readPattern_160 wM_readPattern_165
                have heq : a_kids t n (fun s2 i2 σ2 => a_pat t n f s2 (d + 1) false i2 σ2) p kd (rem + 1 + 1) jj last i1 σ1 = a_kids t n (fun s2 i2 σ2 => a_pat t n f s2 (d + 1) false i2 σ2) p kd (rem + 1) (jj + 1) q (i2 + 1) (a_into σ3 p last q) := by
                  conv => lhs; unfold a_kids
                  rw [hq]
                  simp only [if_pos he, Nat.add_one_ne_zero, if_false]
                rw [heq] at kb ko
                have go : ∀ y, (y = if d + 1 = 6 then 1 else 0) → wM_begins (fun x K' G' => wM_readPattern_15 Q N2 x ((d : Int) + 1) K' G') (a_into σ3 p last q 45 (4 * kd + (jj + 1 : Nat))) y K5 G := fun y hy => ihr (jj + 1) q (i2 + 1) (a_into σ3 p last q) K5 N2 y hy (by omega) q1 (by rw [x16]; omega) q2 y32 (lw_tr hlw4 ⟨fun a k h1 h2 h3 => q3.2 a k h1 (by omega), fun k h1 => q3.2 66 k (by omega) (by omega)⟩) z59 z60 (by rw [q3.2 61 d (by omega) (by omega)]; exact n7) (by rw [x16]; omega) (Or.inr ⟨by omega, by rw [x16]; omega⟩) x46 x48 x44' (by omega) kb ko
                refine cM_wanted q1.2.2.1 y32 (by omega) z59 (by omega) (fun _ => ⟨by omega, by omega⟩) ?_
                rw [if_pos x46, x48, z60, y32]
                exact ⟨fun hz => go 1 (by rw [if_pos (by omega)]), fun hz => brT rfl (go 0 (by rw [if_neg (by omega)]))⟩
              · unfold a_kids
                rw [hq]
                simp only [Nat.add_one_ne_zero, if_false, if_neg he]
          have hrem : ∃ rem : Nat, (σ 44 kd).toNat = rem + 1 := ⟨(σ 44 kd).toNat - 1, by omega⟩
          obtain ⟨rem, hrem⟩ := hrem
          have res2 : ∀ j3 σ3, a_kids t n (fun s2 i2 σ2 => a_pat t n f s2 (d + 1) false i2 σ2) p kd (rem + 1) 0 (-4) j σ2 = .inr (j3, σ3, p) → p_inv σ3 m j3 → ∀ (N' : Nat) (K' : e3_H), 1701 ≤ N' + j3 → r_P t n j3 m σ3 K' → rp_fr H0 K' → K' 40 32 = (d : Int) → r_lw d K1 K' → wM_readPattern_15 Q N' p d K' G := by
            intro j3 σ3 he
            exact resume j3 σ3 (by rw [if_pos c1, hrem]; exact he)
          rw [hrem] at rbad
          have y32 : K1 40 32 = (d : Int) + 1 := o1
          have go : ∀ y, (y = if d + 1 = 6 then 1 else 0) → wM_begins (fun x K' G' => wM_readPattern_15 Q N1 x ((d : Int) + 1) K' G') (σ2 45 (4 * kd + (0 : Nat))) y K1 G := fun y hy => kids rem 0 (-4) j σ2 K1 N1 y hy (by omega) g1 (by omega) g2 y32 ⟨fun _ _ _ _ _ => rfl, fun _ _ => rfl⟩ o4 o5 o6 (by omega) (Or.inl rfl) c2 c3 e44 (by omega) rbad res2
          refine cM_wanted g1.2.2.1 y32 (by omega) o4 (by omega) (fun _ => ⟨by omega, by omega⟩) ?_
          unfold wM_readPattern_56
          rw [if_pos c2, c3, o5, y32]
          exact ⟨fun hz => go 1 (by rw [if_pos (by omega)]), fun hz => go 0 (by rw [if_neg (by omega)])⟩
        · -- alternatives
          have h31 := hpi.2.2.2.2.1
          unfold a_rest at rbad resume
          rw [if_neg (by omega)] at rbad
          generalize hb0 : σ 40 31 = b0 at *
          generalize hp : σ 40 16 = p at *
          generalize hpl : x_sp t n i = pl at *
          have alts : ∀ (rem jj : Nat) (last fst : Int) (srt : Nat → Int) (un : Bool) (i1 : Nat) (σ1 K2 : e3_H) (N' : Nat) (mI : Int), (mI = if decide (jj = 6) = true ∨ d + 1 = 6 then 1 else 0) → jj + (rem + 1) = 7 → r_P t n i1 m σ1 K2 → σ1 40 16 ≤ (i1 : Int) → rp_fr H0 K2 → K2 40 32 = (d : Int) + 1 → r_lw d K1 K2 → K2 59 d = p → K2 60 d = (jj : Int) → K2 61 d = last → K2 62 d = pl → K2 63 d = b0 → (jj ≠ 0 → K2 64 d = fst ∧ (0 ≤ fst ∧ fst < 256) ∧ ∀ k : Nat, k < 8 → K2 66 (8 * (d : Int) + k) = srt k) → (K2 65 d = if un = true then 1 else 0) → (jj = 0 → un = false) → p < σ1 40 16 → (last = -4 ∨ (p ≤ last ∧ last < σ1 40 16)) → σ1 46 p = 6 → σ1 47 p = s → 1700 ≤ N' + i1 →
              (∀ q, a_alts t n (fun mu2 i2 σ2 => a_pat t n f s (d + 1) mu2 i2 σ2) p pl b0 (rem + 1) jj last fst srt un i1 σ1 = .inl q → ∀ x K', r_bad q H0 K' → Q x K' G) →
              (∀ j3 σ3, a_alts t n (fun mu2 i2 σ2 => a_pat t n f s (d + 1) mu2 i2 σ2) p pl b0 (rem + 1) jj last fst srt un i1 σ1 = .inr (j3, σ3, p) → p_inv σ3 m j3 → ∀ (N' : Nat) (K' : e3_H), 1701 ≤ N' + j3 → r_P t n j3 m σ3 K' → rp_fr H0 K' → K' 40 32 = (d : Int) → r_lw d K1 K' → wM_readPattern_15 Q N' p d K' G) →
              wM_begins (fun x K' G' => wM_readPattern_15 Q N' x ((d : Int) + 1) K' G') s mI K2 G := by
            intro rem
            induction rem with
            | zero =>
              intro jj last fst srt un i1 σ1 K2 N' mI hmI hjr k1 k2 k3 k4 k5 k6 k7 k8 kpl kb0 kfs kun kun0 k9 k10 k11 k12 k14 kb ko
              have key := ih s (d + 1) (decide (jj = 6)) mI i1 σ1 K2 N' (by omega) f1 hmI k1 k2 k3 (by rw [k4]; omega) hs k14 (fun x K' G' => wM_readPattern_15 Q N' x ((d : Int) + 1) K' G') (fun _ _ h => by rw [show ((d + 1 : Nat) : Int) = (d : Int) + 1 by omega] at h; exact h)
              refine key (fun q hq => kb q (by unfold a_alts; simp only [hq])) (fun i2 σ3 q hq => ?_)
              exfalso
              rw [decide_eq_true (show jj = 6 by omega)] at hq
              obtain ⟨f2, rfl⟩ : ∃ f2, f = f2 + 1 := ⟨f - 1, by omega⟩
              rw [a_pat_beg] at hq
              unfold a_beg at hq
              rw [if_pos (Or.inr (by simp))] at hq
              cases hq
            | succ rem ihr =>
              intro jj last fst srt un i1 σ1 K2 N' mI hmI hjr k1 k2 k3 k4 k5 k6 k7 k8 kpl kb0 kfs kun kun0 k9 k10 k11 k12 k14 kb ko
              have key := ih s (d + 1) (decide (jj = 6)) mI i1 σ1 K2 N' (by omega) f1 hmI k1 k2 k3 (by rw [k4]; omega) hs k14 (fun x K' G' => wM_readPattern_15 Q N' x ((d : Int) + 1) K' G') (fun _ _ h => by rw [show ((d + 1 : Nat) : Int) = (d : Int) + 1 by omega] at h; exact h)
              refine key (fun q hq => kb q (by unfold a_alts; simp only [hq])) (fun i2 σ3 q hq N2 K3 hN2 l1 l2 l3 => ?_)
              obtain ⟨d1, d2, d3, d4, d5, d6⟩ := a_pat_ok _ _ _ _ _ _ _ _ _ hq k1.2.2.2.2 k2
              have hi2 := r_i l1.2.1
              unfold w_aft
              rw [show ((d + 1 : Nat) : Int) = (d : Int) + 1 by omega] at l3 ⊢
              have m59 : K3 59 d = p := by rw [l3.2.1 59 d (by omega) (by omega) (by omega)]; exact k6
              have m60 : K3 60 d = (jj : Int) := by rw [l3.2.1 60 d (by omega) (by omega) (by omega)]; exact k7
              have m61 : K3 61 d = last := by rw [l3.2.1 61 d (by omega) (by omega) (by omega)]; exact k8
              have m32 : K3 40 32 = (d : Int) + 1 := by rw [l3.1]; exact k4
              refine brF (by omega) ?_
              refine cM_comesInto l1 l2 m32 (by omega) m59 m60 m61 (by omega) (by omega) (by omega) (by omega) (by omega) (fun K4 n1 n2 n3 n4 n5 n6 n7 => ?_)
              have x46 : a_into σ3 p last q 46 p = 6 := by rw [a_into_at 46 p (by omega) (by omega) (by omega), d6.2.2.2.1 46 p (by omega) (by omega) (by omega)]; exact k11
              have x47 : a_into σ3 p last q 47 p = s := by rw [a_into_at 47 p (by omega) (by omega) (by omega), d6.2.2.2.1 47 p (by omega) (by omega) (by omega)]; exact k12
              have y59 : K4 59 d = p := by rw [n4 59 (by omega) (by omega) (by omega) (by omega)]; exact m59
              have x16 : a_into σ3 p last q 40 16 = σ3 40 16 := a_into_at 40 16 (by omega) (by omega) (by omega)
              have hlw4 : r_lw d K1 K4 := lw_tr (lw_tr k5 (lw_lo l3 (by omega))) (lw_lo n3 (by omega))
              have heq := a_alts_eq (t := t) (n := n) (g := fun mu2 i2 σ2 => a_pat t n f s (d + 1) mu2 i2 σ2) (p := p) (pl := pl) (b0 := b0) (last := last) (fst := fst) (srt := srt) (un := un) (rem := rem + 1) hq
              rw [heq] at kb ko
              refine cM_goA (pl := (pl : Int)) (fst := fst) (srt := srt) (un := un) n1 n2 (by rw [n3.1]; exact m32) (by omega) y59 (by omega) n6 (by omega) (by omega) (by rw [n4 62 (by omega) (by omega) (by omega) (by omega), l3.2.1 62 d (by omega) (by omega) (by omega)]; exact kpl) (by rw [n4 63 (by omega) (by omega) (by omega) (by omega), l3.2.1 63 d (by omega) (by omega) (by omega)]; exact kb0) h31 (fun hz => by rw [n4 64 (by omega) (by omega) (by omega) (by omega), l3.2.1 64 d (by omega) (by omega) (by omega)]; exact (kfs (by omega)).1) (fun hz => (kfs (by omega)).2.1) (by rw [n4 65 (by omega) (by omega) (by omega) (by omega), l3.2.1 65 d (by omega) (by omega) (by omega)]; exact kun) (fun hz => kun0 (by omega)) (fun hz k hk => by rw [n5, l3.2.2 _ (by omega)]; exact (kfs (by omega)).2.2 k hk)
                (fun he K5 q1 q2 q3 q4 q5 q6 q7 => brF (by decide) ?_) (fun he hu K5 q1 q2 q3 q4 => brT rfl (brT q1.2.2.2.1 ?_)) (fun he hu K5 hb => brT rfl (brF hb.1 (lp_bad (by omega) hb (kb _ ?_)))) (fun he he2 K5 hb => brT rfl (brF hb.1 (lp_bad (by omega) hb (kb _ ?_))))
              · rw [if_pos he] at kb ko
                have y32 : K5 40 32 = (d : Int) + 1 := by rw [q3.1, n3.1]; exact m32
                have z59 : K5 59 d = p := by rw [q4 59 (by omega) (by omega)]; exact y59
                have z60 : K5 60 d = ((jj + 1 : Nat) : Int) := by rw [q4 60 (by omega) (by omega), n6]; omega
                have w46 : (e3_up (a_into σ3 p last q) 40 31 b0) 46 p = 6 := by simp (disch := omega) only [e3_up_self, e3_up_ne]; exact x46
                have w47 : (e3_up (a_into σ3 p last q) 40 31 b0) 47 p = s := by simp (disch := omega) only [e3_up_self, e3_up_ne]; exact x47
                have w16 : (e3_up (a_into σ3 p last q) 40 31 b0) 40 16 = σ3 40 16 := by simp (disch := omega) only [e3_up_self, e3_up_ne]; exact x16
                have z46 : K5 46 p = 6 := by rw [r_N_at q1.2.2.1 46 (by omega)]; exact w46
                rw [y32, e3_w32_id (x := (d : Int) + 1 - 1) (by omega) (by omega), show (d : Int) + 1 - 1 = d by omega, z59, z46, z60]
                have hfs : 0 ≤ a_fst ((jj : Int) + 1) (a_into σ3 p last q) fst ∧ a_fst ((jj : Int) + 1) (a_into σ3 p last q) fst < 256 := by
                  unfold a_fst
                  split
                  · exact n1.2.2.2.2.2.2.2.2.1
                  · exact (kfs (by omega)).2.1
                have go : ∀ y, (y = if decide (jj + 1 = 6) = true ∨ d + 1 = 6 then 1 else 0) → wM_begins (fun x K' G' => wM_readPattern_15 Q N2 x ((d : Int) + 1) K' G') s y K5 G := fun y hy => ihr (jj + 1) q _ _ _ (i2 + 1) _ K5 N2 y hy (by omega) q1 (by rw [w16]; omega) q2 y32 (lw_tr hlw4 (lw_lo q3 (by omega))) z59 z60 (by rw [q4 61 (by omega) (by omega)]; exact n7) (by rw [q4 62 (by omega) (by omega), n4 62 (by omega) (by omega) (by omega) (by omega), l3.2.1 62 d (by omega) (by omega) (by omega)]; exact kpl) (by rw [q4 63 (by omega) (by omega), n4 63 (by omega) (by omega) (by omega) (by omega), l3.2.1 63 d (by omega) (by omega) (by omega)]; exact kb0) (fun _ => ⟨q5, hfs, q6⟩) q7 (fun hz => by omega) (by rw [w16]; omega) (Or.inr ⟨by omega, by rw [w16]; omega⟩) w46 w47 (by omega) kb ko
                unfold wM_readPattern_138 wM_readPattern_139 wM_readPattern_160 wM_readPattern_165
                refine ⟨by omega, by omega, brT rfl ⟨by omega, fun h6 => ?_, fun h6 => ?_⟩⟩
                · refine cM_wanted q1.2.2.1 y32 (by omega) z59 (by omega) (fun hz => by omega) ?_
                  rw [if_neg (by omega), w47, y32]
                  exact ⟨fun hz => go 1 (by rw [if_pos (Or.inr (by omega))]), fun hz => brF (by decide) (go 1 (by rw [if_pos (Or.inl (decide_eq_true (by omega)))]))⟩
                · refine cM_wanted q1.2.2.1 y32 (by omega) z59 (by omega) (fun hz => by omega) ?_
                  rw [if_neg (by omega), w47, y32]
                  refine ⟨fun hz => go 1 (by rw [if_pos (Or.inr (by omega))]), fun hz => brT rfl (go 0 ?_)⟩
                  rw [if_neg (by rw [decide_eq_true_eq]; omega)]
              · rw [if_neg (by omega), if_pos he, if_neg (by rw [hu]; simp)] at ko
                intro H13 e13
                have y32 : K5 40 32 = (d : Int) + 1 := by rw [q3.1, n3.1]; exact m32
                rw [y32, e3_w32_id (by omega) (by omega), show (d : Int) + 1 - 1 = d by omega] at e13
                have z32 : H13 40 32 = (d : Int) := by rw [e13]; simp (disch := omega) only [e3_up_self, e3_up_ne]
                have z59 : H13 59 d = p := by rw [e13]; simp (disch := omega) only [e3_up_self, e3_up_ne]; exact q4
                rw [z32, z59]
                refine ⟨by omega, ko (i2 + 1) _ rfl q1.2.2.2.2 N2 H13 (by omega) ?_ ?_ z32 ?_⟩
                · rw [e13]; exact r_P_s q1 (by omega)
                · rw [e13]; exact rp_up q2 (by omega)
                · rw [e13]
                  exact lw_tr hlw4 ⟨fun a k h1 h2 h3 => by simp (disch := omega) only [e3_up_self, e3_up_ne]; exact q3.2.1 a k h1 h2 h3, fun k h1 => by simp (disch := omega) only [e3_up_self, e3_up_ne]; exact q3.2.2 k h1⟩
              · rw [if_neg (by omega), if_pos he, if_pos hu]
              · rw [if_neg he2, if_neg he]
          have res2 : ∀ j3 σ3, a_alts t n (fun mu2 i2 σ2 => a_pat t n f s (d + 1) mu2 i2 σ2) p pl b0 (6 + 1) 0 (-4) 0 (fun _ => 0) false j σ2 = .inr (j3, σ3, p) → p_inv σ3 m j3 → ∀ (N' : Nat) (K' : e3_H), 1701 ≤ N' + j3 → r_P t n j3 m σ3 K' → rp_fr H0 K' → K' 40 32 = (d : Int) → r_lw d K1 K' → wM_readPattern_15 Q N' p d K' G := by
            intro j3 σ3 he
            exact resume j3 σ3 (by rw [if_neg (by omega)]; exact he)
          have y32 : K1 40 32 = (d : Int) + 1 := o1
          have go : ∀ y, (y = if decide (0 = 6) = true ∨ d + 1 = 6 then 1 else 0) → wM_begins (fun x K' G' => wM_readPattern_15 Q N1 x ((d : Int) + 1) K' G') s y K1 G := fun y hy => alts 6 0 (-4) 0 (fun _ => 0) false j σ2 K1 N1 y hy (by omega) g1 (by omega) g2 y32 ⟨fun _ _ _ _ _ => rfl, fun _ _ => rfl⟩ o4 o5 o6 o7 o8 (fun hz => absurd rfl hz) o9 (fun _ => rfl) (by omega) (Or.inl rfl) c2 b5 (by omega) rbad res2
          refine cM_wanted g1.2.2.1 y32 (by omega) o4 (by omega) (fun hz => by omega) ?_
          unfold wM_readPattern_56
          rw [if_neg (by omega), b5, y32]
          exact ⟨fun hz => go 1 (by rw [if_pos (Or.inr (by omega))]), fun hz => go 0 (by rw [if_neg (by rw [decide_eq_true_eq]; omega)])⟩
    · rw [hmud] at hb
      exact lp_bad (by omega) hbd (hbad q (by rw [a_pat_beg, hb]))
theorem cM_readPattern {Q : Int → e3_H → e3_G → Prop} {s muI : Int} {mu : Bool} {i : Nat} {σ K : e3_H} (hmu : muI = if mu = true then 1 else 0) (h : r_P t n i m σ K) (hst : σ 40 16 ≤ (i : Int)) (hfr : rp_fr H0 K) (hs : 0 ≤ s ∧ s < 3 + m)
    (hbad : ∀ q, a_pat t n 7 s 0 mu i σ = .inl q → ∀ x K', r_bad q H0 K' → Q x K' G)
    (hok : ∀ j σ2 p, a_pat t n 7 s 0 mu i σ = .inr (j, σ2, p) → ∀ K', r_P t n j m σ2 K' → rp_fr H0 K' → Q p K' G) : wM_readPattern Q s muI K G := by
  unfold wM_readPattern
  intro H1 e1
  refine rd_pat (Q := Q) (G := G) (H0 := H0) (t := t) (n := n) (m := m) 7 s 0 mu muI i σ H1 1700 (by omega) (by omega) (by rw [hmu]; simp) (by rw [e1]; exact r_P_s h (by omega)) hst (by rw [e1]; exact rp_up hfr (by omega)) (by rw [e1]; simp (disch := omega) only [e3_up_self, e3_up_ne]; rfl) hs (by omega) _ (fun x K' h => ⟨1700, h⟩) hbad (fun j σ2 p he N' K' _ a b c => ?_)
  unfold w_aft wM_readPattern_208
  refine brT ?_ (hok j σ2 p he K' a b)
  rw [c.1, e1]; simp (disch := omega) only [e3_up_self, e3_up_ne]
end RL
