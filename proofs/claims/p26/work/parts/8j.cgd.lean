theorem ne_a {a b k j : Int} (h : a ≠ b) : ¬ (a = b ∧ k = j) := fun z => h z.1
section CGD
variable {t : Int → Int} {n s m : Nat} {ru fu : Int} {H : e3_H} {G : e3_G} {σ0 g R0 : e3_H} {ic : Nat} {σc gc Kc : e3_H} {Gc : e3_G} {l : List Int} {li la : Int}
/-- a rule's arrays are none of the others -/
theorem c_sk_ne {i : Nat} {σ : e3_H} {cx : Int → Int} {j : Int} (h : c_sk ru Kc Gc) (hM : c_M t n s i m ru fu σ cx Kc Gc) (j2 : 2 ≤ j) (j6 : j ≤ 6) : ru + j ≠ fu ∧ ru + j ≠ Kc fu 8 ∧ ru + j ≠ Kc fu 9 ∧ ru + j < Gc.length ∧ ∃ k : Nat, k < 100 ∧ ∃ n', g_at Gc (ru + j) (k, n') := by
  obtain ⟨s1, s2, ⟨s3, s3b⟩, ⟨s4, s4b⟩, ⟨s5, s5b⟩, ⟨s6, s6b⟩, ⟨s7, s7b⟩, ⟨s8, s8b⟩⟩ := h
  have c1 : ∃ c n' : Nat, g_at Gc (ru + j) (c, n') ∧ n' < 16 ∧ c < 100 := by
    have hj : j = 2 ∨ j = 3 ∨ j = 4 ∨ j = 5 ∨ j = 6 := by omega
    rcases hj with hj | hj | hj | hj | hj <;> subst hj
    · exact ⟨0, 2, s4b, by omega, by omega⟩
    · exact ⟨0, 4, s5b, by omega, by omega⟩
    · exact ⟨0, 4, s6b, by omega, by omega⟩
    · exact ⟨0, 3, s7b, by omega, by omega⟩
    · exact ⟨0, 3, s8b, by omega, by omega⟩
  obtain ⟨c, n', h1, h2, h3⟩ := c1
  obtain ⟨q1, q2, L, q3, q4, q5, q6, _⟩ := hM.2.2.2.1
  refine ⟨ga_ne h1 q2 (by omega), ?_, ?_, ga_lt h1, c, h3, n', h1⟩
  · intro z
    rw [z] at h1
    have := (Prod.mk.inj (ga_eq h1 q3.2)).2
    omega
  · intro z
    rw [z] at h1
    have := (Prod.mk.inj (ga_eq h1 q4.2)).2
    omega
/-- the rule's own rows are written -/
theorem c_tp_R {a j v : Int} (h : c_tp t n s m ru fu H G σ0 g R0 ic σc gc Kc Gc l li la) (ha : (a = ru ∧ (j = 7 ∨ (11 ≤ j ∧ j ≤ 15) ∨ j = 18)) ∨ (ru + 2 ≤ a ∧ a ≤ ru + 6)) : c_tp t n s m ru fu H G σ0 g (e3_up R0 a j v) ic σc gc (e3_up Kc a j v) Gc l li la ∧ (e3_up Kc a j v) fu 7 = Kc fu 7 ∧ (e3_up Kc a j v) fu 8 = Kc fu 8 := by
  obtain ⟨o1, ⟨o2, o2b, o2c, o2d⟩, o3, ⟨o8, o9⟩, ⟨o10, o11⟩, o12, o13, ⟨o14, o15, o16⟩⟩ := h
  have s1 := o2d.1
  have s3 := o2d.2.2.1.1
  have anf : (fu ≠ a ∧ Kc fu 8 ≠ a ∧ Kc fu 9 ≠ a) ∧ ∀ b : Int, g_at Gc b (110, 10) → b ≠ a := by
    rcases ha with ⟨h1, _⟩ | ⟨h1, h2⟩
    · have hd := (c_M_ad o1).2.2.2.2.2
      rw [h1]
      exact ⟨⟨fun z => hd.1 z.symm, fun z => hd.2.2.1 z.symm, fun z => hd.2.2.2.1 z.symm⟩, fun b hb => (c_M_pa o1 hb).1⟩
    · obtain ⟨x1, x2, x3, x4, k, xk, n', x5⟩ := c_sk_ne (j := a - ru) o2d o1 (by omega) (by omega)
      rw [show ru + (a - ru) = a by omega] at x1 x2 x3 x4 x5
      exact ⟨⟨fun z => x1 z.symm, fun z => x2 z.symm, fun z => x3 z.symm⟩, fun b hb => ga_ne hb x5 (by omega)⟩
  have a139 : 139 ≤ a := by rcases ha with h1 | h1 <;> omega
  have aG : (G.length : Int) ≤ a := by rcases ha with h1 | h1 <;> omega
  have r5 : Kc ru 5 ≠ a := by rcases ha with h1 | h1 <;> omega
  have a0 : (0 : Int) ≠ a := by omega
  have kna : ∀ b k : Int, b ≠ a → (e3_up Kc a j v) b k = Kc b k := fun b k hb => e3_up_ne (ne_a hb)
  have rk : ∀ k : Int, k ≠ 7 → k ≠ 11 → k ≠ 12 → k ≠ 13 → k ≠ 14 → k ≠ 15 → k ≠ 18 → (e3_up Kc a j v) ru k = Kc ru k := fun k _ _ _ _ _ _ _ => e3_up_ne (fun z => by omega)
  have M2 : c_M t n s ic m ru fu σc (gc 3) (e3_up Kc a j v) Gc := by
    rcases ha with ⟨h1, h2⟩ | ⟨h1, h2⟩
    · rw [h1]; exact c_M_ru o1 (by omega)
    · have rne : ru ≠ a := by omega
      have := c_M_eq (E := []) (K := e3_up Kc a j v) o1 (fun b k hb => kna b k (by
        rcases hb with hb | hb | hb | hb | hb | hb | hb
        · omega
        · omega
        · rw [hb]; exact rne
        · rw [hb]; exact r5
        · rw [hb]; exact anf.1.1
        · rw [hb]; exact anf.1.2.1
        · rw [hb]; exact anf.1.2.2))
      rw [List.append_nil] at this
      exact this
  clear ha
  have e7 : (e3_up Kc a j v) fu 7 = Kc fu 7 := kna _ _ anf.1.1
  have e8 : (e3_up Kc a j v) fu 8 = Kc fu 8 := kna _ _ anf.1.1
  have hgr : ∀ a k : Int, 0 ≤ a → a ≤ 2 → k < σc 40 16 → gc a k = gc a k := fun _ _ _ _ _ => rfl
  refine ⟨⟨M2, ⟨c_F_up o2 o2c aG, o2b, o2c, ?_⟩, o3, ⟨fun q q0 q1 => ?_, o9⟩, ⟨?_, o11⟩, ?_, o13, ⟨?_, fun k k2 k3 k4 k6 => ?_, fun jj k j2 j6 => ?_⟩⟩, e7, e8⟩
  · unfold c_sk at o2d ⊢
    rw [rk 5 (by decide) (by decide) (by decide) (by decide) (by decide) (by decide) (by decide), rk 8 (by decide) (by decide) (by decide) (by decide) (by decide) (by decide) (by decide), rk 9 (by decide) (by decide) (by decide) (by decide) (by decide) (by decide) (by decide), rk 10 (by decide) (by decide) (by decide) (by decide) (by decide) (by decide) (by decide), rk 16 (by decide) (by decide) (by decide) (by decide) (by decide) (by decide) (by decide), rk 17 (by decide) (by decide) (by decide) (by decide) (by decide) (by decide) (by decide)]
    exact o2d
  · rw [e7]
    exact ⟨c_pt_keep (o8 q q0 q1).1 ⟨[], by rw [List.append_nil]⟩ (fun _ _ _ => rfl) (fun _ _ _ => rfl) (Int.le_refl _) hgr (fun _ _ _ => rfl) (Int.le_refl _) q1 (Int.le_refl _) (fun k => kna _ _ (anf.2 _ (o8 q q0 q1).1.1.2.1)), (o8 q q0 q1).2⟩
  · rw [rk 2 (by decide) (by decide) (by decide) (by decide) (by decide) (by decide) (by decide)]
    refine chn_eq l _ (fun c hc => ?_) o10
    obtain ⟨q, q0, q1, q2⟩ := o11 c hc
    rw [← q2]
    exact kna _ _ (anf.2 _ (o8 q q0 q1).1.1.2.1)
  · rw [rk 2 (by decide) (by decide) (by decide) (by decide) (by decide) (by decide) (by decide)]; exact o12
  · rw [wys_eq (H := Kc) l 1 (fun c hc => ?_)]
    · exact o14
    · obtain ⟨q, q0, q1, q2⟩ := o11 c hc
      rw [← q2]
      exact kna _ _ (anf.2 _ (o8 q q0 q1).1.1.2.1)
  · rw [e3_up_ne (ne_a a0)] at k3
    by_cases hz : ru = a ∧ k = j
    · rw [hz.1, hz.2, e3_up_self, e3_up_self]
    · rw [e3_up_ne hz, e3_up_ne hz]; exact o15 k k2 k3 k4 k6
  · by_cases hz : ru + jj = a ∧ k = j
    · rw [hz.1, hz.2, e3_up_self, e3_up_self]
    · rw [e3_up_ne hz, e3_up_ne hz]; exact o16 jj k j2 j6
/-- the state may change behind 74 -/
theorem c_tp_σ {σ2 : e3_H} (h : c_tp t n s m ru fu H G σ0 g R0 ic σc gc Kc Gc l li la) (hg : g_fr σc σ2) : c_tp t n s m ru fu H G σ0 g R0 ic σ2 gc Kc Gc l li la := by
  obtain ⟨o1, o2, ⟨o3, o4, o5, o6, o7, o7b⟩, ⟨o8, o9⟩, ⟨o10, o11⟩, o12, o13, ⟨o14, o15, o16⟩⟩ := h
  have e : ∀ a : Int, a < 75 → σ2 a = σc a := fun a ha => funext fun k => hg a k (by omega)
  have hgr : ∀ a k : Int, 0 ≤ a → a ≤ 2 → k < σc 40 16 → gc a k = gc a k := fun _ _ _ _ _ => rfl
  have e16 : σ2 40 16 = σc 40 16 := by rw [e 40 (by omega)]
  refine ⟨c_M_σ o1 (e 42 (by omega)) (e 43 (by omega)) (e 44 (by omega)) (e 45 (by omega)) (by rw [e 40 (by omega)]) (by rw [e 40 (by omega)]) (e 56 (by omega)) (e 57 (by omega)) (e 58 (by omega)), o2, ⟨p_g o3 hg, (nm_eq o4 (by rw [e 40 (by omega)]) (e 56 (by omega)) (e 58 (by omega))).1, by omega, by omega, by rw [e 40 (by omega)]; exact o7, o7b⟩, ⟨fun q q0 q1 => ?_, fun q q2 y1 y2 y3 => o9 q q2 y1 y2 (by omega)⟩, ⟨o10, by rw [e16]; exact o11⟩, ?_, o13, ⟨by rw [e 74 (by omega)]; exact o14, o15, o16⟩⟩
  · rw [e16] at q1 ⊢
    exact ⟨c_pt_keep (o8 q q0 q1).1 ⟨[], by rw [List.append_nil]⟩ (fun a _ _ => by rw [e a (by omega)]) (fun k _ _ => by rw [e 57 (by omega)]) (by rw [e 56 (by omega)]; omega) hgr (fun _ _ _ => rfl) (by omega) q1 (by omega) (fun _ => rfl), (o8 q q0 q1).2⟩
  · rw [e16, e 52 (by omega), e 72 (by omega)]; exact o12
/-- a bound NAME that is a WHOLE -/
theorem cR_wholeName {Q : Int → e3_H → e3_G → Prop} (h : c_tp t n s m ru fu H G σ0 g R0 ic σc gc Kc Gc l li la) (hty : x_ty t n ic = 258) (hok : ∀ k, a_bnd σc (x_wo t n ic) true = some k → 0 ≤ k → ∀ K2, c_tp t n s m ru fu H G σ0 g R0 (ic + 1) σc gc K2 Gc l li la → x_C Kc K2 → Q k K2 Gc) (hfl : a_bnd σc (x_wo t n ic) true = none → ∀ K2, c_flt (x_sp t n ic) Kc K2 → Q (-1) K2 Gc) : wR_readWholeName Q Kc Gc := by
  obtain ⟨o1, ⟨o2, o2b, o2c, o2d⟩, ⟨o3, o4, o5, o6, o7, o7b⟩, _⟩ := id h
  have h3 := o1.2.2.1
  have h8 := o3.2.2.2.1
  have nmc : nm_inv (σc 40 27) m σc := by rw [o7]; exact o4
  obtain ⟨n7, n8, n9⟩ := c_now o1.1
  unfold wR_readWholeName
  rw [h3.1, n9]
  refine ⟨ga_ob (c := 9) h3.2.2.1, cU_nameNumber h3 h8 ?_⟩
  have hr := a_no_rg (σ := σc) (v := x_wo t n ic) h8
  unfold a_bnd at hok hfl
  by_cases hz : a_no σc (x_wo t n ic) < 0
  · rw [if_pos hz]
    rw [if_pos hz] at hfl
    exact brT (by decide) (cR_failHere o1.1 (by decide) (fun K2 hf => hfl rfl K2 hf))
  · rw [if_neg hz]
    rw [if_neg hz] at hok hfl
    have ek : ((a_no σc (x_wo t n ic)).toNat : Int) = a_no σc (x_wo t n ic) := Int.toNat_of_nonneg (by omega)
    refine brF hz ⟨by rw [h3.1]; exact ga_ob (c := 9) h3.2.2.1, ?_⟩
    rw [h3.1]
    have key := cU_nameSort (Q := fun x9 H7 G8 => (((x9 : Int) = 0 → (wT_step (fun H10 G11 => Q (a_no σc (x_wo t n ic)) H10 G11) H7 G8)) ∧ (¬ ((x9 : Int) = 0) → (wR_failHere (fun x15 H13 G14 => Q (-1) H13 G14) 5 H7 G8)))) (m := m) (k := (a_no σc (x_wo t n ic)).toNat) h3 o3.1.2.1 nmc h8 (by omega)
    rw [ek] at key
    refine key ?_
    unfold c_nm
    by_cases hb : b_bit (σc 40 31) (a_no σc (x_wo t n ic)).toNat = true
    · rw [if_pos hb, ek]
      rw [if_neg (by rw [hb]; decide)] at hok hfl
      refine ⟨fun h0 => cT_stp o1.1 ⟨by omega, by omega⟩ (fun K2 a2 b2 => hok _ ?_ (by omega) K2 (c_tp_s h a2 b2) b2), fun h0 => cR_failHere o1.1 (by decide) (fun K2 hf => hfl ?_ K2 hf)⟩
      · rw [if_neg (fun z => z.2 (by omega))]
      · rw [if_pos ⟨rfl, by omega⟩]
    · have hb2 : b_bit (σc 40 31) (a_no σc (x_wo t n ic)).toNat = false := by
        cases hy : b_bit (σc 40 31) (a_no σc (x_wo t n ic)).toNat with
        | false => rfl
        | true => exact absurd hy hb
      rw [if_neg hb]
      rw [if_pos hb2] at hfl
      exact brF (by decide) (cR_failHere o1.1 (by decide) (fun K2 hf => hfl rfl K2 hf))
end CGD
