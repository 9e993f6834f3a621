def c_bw (fst : Int) (srt : Nat → Int) (k : Nat) : Int := if b_bit fst k = true then srt k + 1 else 0
theorem a_unl_k {σ : e3_H} {b0 fst : Int} {srt : Nat → Int} : ∀ c : Nat, a_unl σ b0 fst srt c = false → ∀ k : Nat, k < c → b_bit (σ 40 31) k = true → b_bit b0 k = false → srt k = σ 58 (8 * σ 40 27 + k) := by
  intro c
  induction c with
  | zero => intro _ k hk; omega
  | succ c ih =>
    intro h k hk h1 h2
    unfold a_unl at h
    rw [Bool.or_eq_false_iff] at h
    by_cases hz : k = c
    · subst hz
      rw [h1, h2] at h
      have h3 := h.2
      rw [Bool.not_false, Bool.and_true, Bool.true_and] at h3
      exact Decidable.not_not.mp (of_decide_eq_false h3)
    · exact ih h.1 k (by omega) h1 h2
theorem a_unl_no {σ : e3_H} {b0 fst : Int} {srt : Nat → Int} (h31 : σ 40 31 = fst) (h : ∀ k : Nat, k < 8 → b_bit (σ 40 31) k = true → srt k = σ 58 (8 * σ 40 27 + k)) : ∀ c : Nat, c ≤ 8 → a_unl σ b0 fst srt c = false := by
  intro c
  induction c with
  | zero => intro _; unfold a_unl; exact decide_eq_false (fun z => z h31)
  | succ c ih =>
    intro hc
    unfold a_unl
    rw [ih (by omega), Bool.false_or]
    cases hb : b_bit (σ 40 31) c with
    | false => rfl
    | true => rw [decide_eq_false (fun z => z (h c (by omega) hb)), Bool.and_false]
theorem un_eq {τ : e3_H} {b0 fst : Int} {srt : Nat → Int} (h31 : 0 ≤ τ 40 31 ∧ τ 40 31 < 256) (hf : 0 ≤ fst ∧ fst < 256) (hv : lb_ok (c_nm τ)) (hw : lb_ok (c_bw fst srt)) (h1 : ∀ k : Nat, k < 8 → b_bit (τ 40 31) k = true → 0 ≤ τ 58 (8 * τ 40 27 + k)) (h2 : ∀ k : Nat, k < 8 → b_bit fst k = true → 0 ≤ srt k) (hb : ∀ k : Nat, k < 8 → b_bit b0 k = true → srt k = τ 58 (8 * τ 40 27 + k)) : lb (c_nm τ) 8 = lb (c_bw fst srt) 8 ↔ a_unl τ b0 fst srt 8 = false := by
  rw [lb_inj hv hw]
  refine ⟨fun he => ?_, fun he => ?_⟩
  · have bits : ∀ k : Nat, k < 8 → b_bit (τ 40 31) k = b_bit fst k := by
      intro k hk
      have := he k hk
      unfold c_nm c_bw at this
      cases ha : b_bit (τ 40 31) k with
      | true =>
        cases hc : b_bit fst k with
        | true => rfl
        | false =>
          rw [ha, hc, if_pos rfl, if_neg (by decide)] at this
          have := h1 k hk ha
          omega
      | false =>
        cases hc : b_bit fst k with
        | false => rfl
        | true =>
          rw [ha, hc, if_pos rfl, if_neg (by decide)] at this
          have := h2 k hk hc
          omega
    refine a_unl_no (b_ext h31 hf bits) (fun k hk hk2 => ?_) 8 (by omega)
    have := he k hk
    unfold c_nm c_bw at this
    rw [if_pos hk2, if_pos (by rw [← bits k hk]; exact hk2)] at this
    omega
  · have e := a_unl_f 8 he
    intro k hk
    unfold c_nm c_bw
    rw [e]
    by_cases hb2 : b_bit fst k = true
    · rw [if_pos hb2, if_pos hb2]
      cases hb3 : b_bit b0 k with
      | true => rw [hb k hk hb3]
      | false => rw [a_unl_k 8 he k hk (by rw [e]; exact hb2) hb3]
    · rw [if_neg hb2, if_neg hb2]
section CAL
variable {t : Int → Int} {n s m : Nat} {ru fu : Int} {σ g H : e3_H} {G : e3_G} {fl0 code p fk : Int} {ic i : Nat} {σc gc Kc : e3_H} {Gc : e3_G} {l : List Int} {li la : Int}
/-- the rule's bindings are written anew -/
theorem c_op_rl {σ2 : e3_H} {v : Int} (h : c_op t n s m ru fu σ g H G fl0 code p fk ic σc gc Kc Gc l li la) (hA : (139 ≤ ru ∧ ru < G.length) ∧ (139 ≤ H ru 5 ∧ H ru 5 < G.length) ∧ (139 ≤ fu ∧ fu < G.length) ∧ ru ≠ fu ∧ ru ≠ H ru 5) (hx : ∀ a k : Int, a ≠ 58 → ¬ (a = 40 ∧ k = 31) → σ2 a k = σc a k) (hv : v = lb (c_nm σ2) 8) (hpi : p_inv σ2 m ic) (hnm : nm_inv (σ 40 27) m σ2) (hfr : a_fr p σ σ2) : c_op t n s m ru fu σ g H G fl0 code p fk ic σ2 gc (e3_up Kc ru 6 v) Gc l li la := by
  obtain ⟨o1, o2, ⟨o3, o4, o5, o6, o7, o8⟩, ⟨o9, o10, o11, o12, o13, o14⟩, o15, ⟨o16, o17⟩, ⟨o18, o19⟩, o20, o21, o24⟩ := h
  have hd := c_M_ad o1
  have e5 : Kc ru 5 = H ru 5 := o2.2.2.2.2.1 5 (by decide) (by decide)
  have hl139 : 139 ≤ (G.length : Int) := by rw [← o10]; exact o9.1
  have kne : ∀ b k : Int, ¬ (b = ru ∧ k = 6) → (e3_up Kc ru 6 v) b k = Kc b k := fun b k hz => e3_up_ne hz
  have e7 : (e3_up Kc ru 6 v) fu 7 = Kc fu 7 := kne _ _ (by omega)
  have hgr : ∀ a k : Int, 0 ≤ a → a ≤ 2 → k < σc 40 16 → gc a k = gc a k := fun _ _ _ _ _ => rfl
  have x16 : σ2 40 16 = σc 40 16 := hx _ _ (by omega) (by omega)
  have xa : ∀ a : Int, a ≠ 58 → a ≠ 40 → σ2 a = σc a := fun a h1 h2 => funext fun k => hx a k h1 (by omega)
  have pne : ∀ b : Int, g_at Gc b (110, 10) → b ≠ ru := fun b hb => (c_M_pa o1 hb).1
  have rn57 : ∀ k : Int, 0 ≤ k → k < σc 56 (σ 40 27) → σ2 57 (8 * σ 40 27 + k) = σc 57 (8 * σ 40 27 + k) := fun k _ _ => hx _ _ (by omega) (by omega)
  have r56 : σc 56 (σ 40 27) ≤ σ2 56 (σ 40 27) := by rw [hx 56 _ (by omega) (by omega)]; omega
  refine ⟨?_, ?_, ⟨hfr, hpi, hnm, by rw [x16]; exact o6, by rw [x16]; exact o7, o8⟩, ⟨?_, o10, by rw [kne _ _ (by omega)]; exact o11, by rw [xa 54 (by omega) (by omega)]; exact o12, by rw [kne _ _ (by omega)]; exact o13, by rw [xa 52 (by omega) (by omega)]; exact o14⟩, ?_, ⟨fun q q0 q1 => ?_, fun q q2 y1 y2 y3 => o17 q q2 y1 y2 (by rw [x16] at y3; exact y3)⟩, ⟨?_, by rw [x16]; exact o19⟩, ?_, o21, by rw [xa 46 (by omega) (by omega)]; exact o24⟩
  · obtain ⟨m1, m2, m3, m4, m5⟩ := o1
    refine ⟨c_tk_eq m1 (fun a k ha => kne _ _ (by omega)), ?_, ?_, ?_, by rw [kne _ _ (by omega)]; exact m5⟩
    · have := ckd_eq (K2 := e3_up Kc ru 6 v) m2 (fun a k ha => kne _ _ (by omega))
      unfold c_kd at this ⊢
      rw [xa 42 (by omega) (by omega), xa 43 (by omega) (by omega), xa 44 (by omega) (by omega), xa 45 (by omega) (by omega)]
      exact this
    · obtain ⟨q1, q2, q3, q4, q5, q6, q7, q8, q9⟩ := m3
      have e27 : σ2 40 27 = σc 40 27 := hx _ _ (by omega) (by omega)
      have f5 : (e3_up Kc ru 6 v) ru 5 = Kc ru 5 := kne _ _ (by omega)
      refine ⟨by rw [kne _ _ (by omega)]; exact q1, q2, q3, by rw [f5]; exact q4, by rw [f5]; exact q5, by rw [kne _ _ (by omega), e27, xa 56 (by omega) (by omega)]; exact q6, fun k hk => ?_, by rw [e3_up_self]; exact hv, ?_⟩
      · rw [e27, xa 56 (by omega) (by omega)] at hk
        unfold a_rn
        rw [f5, kne _ _ (by omega), e27, xa 57 (by omega) (by omega)]
        exact q7 k hk
      · unfold a_ds a_rn a_nm
        rw [e27, xa 56 (by omega) (by omega), xa 57 (by omega) (by omega)]
        exact q9
    · have := c_pl_eq (E := []) (K := e3_up Kc ru 6 v) m4 (fun a k ha => kne _ _ (by omega))
      rw [List.append_nil] at this
      exact this
  · obtain ⟨x1, a2, a3, a4, a5, a6, a7, a8, a9, a10, a11⟩ := o2
    refine ⟨x1, fun b k z1 z2 z3 z4 z5 z6 z7 z8 => ?_, fun k hk => ?_, fun k k4 k5 => ?_, fun k k4 k5 => ?_, fun k k7 k8 k9 => ?_, ?_, ?_, ?_, ?_, fun k k0 k1 => ?_⟩
    · rw [kne _ _ (by omega)]; exact a2 b k z1 z2 z3 z4 z5 z6 z7 z8
    · rw [kne _ _ (by omega)]; exact a3 k hk
    · rw [kne _ _ (by omega)]; exact a4 k k4 k5
    · rw [kne _ _ (by omega)]; exact a5 k k4 k5
    · rw [kne _ _ (by omega)]; exact a6 k k7 k8 k9
    · rw [kne _ _ (by omega)]; exact a7
    · rw [kne _ _ (by omega)]; exact a8
    · rw [kne _ _ (by omega)]; exact a9
    · rw [kne _ _ (by omega)]; exact a10
    · rw [kne _ _ (by omega)]; exact a11 k k0 k1
  · rw [e7]; exact c_p0_keep o9 ⟨[], by rw [List.append_nil]⟩ (fun a _ _ => by rw [xa a (by omega) (by omega)]) rn57 r56 rfl rfl (fun _ _ _ => rfl) (by omega) (fun k _ => kne _ _ (by have := pne _ o9.2.1; omega))
  · rw [x16]; exact c_l1_keep o15 (by rw [xa 46 (by omega) (by omega)]) (by rw [xa 51 (by omega) (by omega)]) hgr o7 (by omega) (kne _ _ (by omega))
  · rw [x16] at q1 ⊢
    rw [e7]; exact c_pt_keep (o16 q q0 q1) ⟨[], by rw [List.append_nil]⟩ (fun a _ _ => by rw [xa a (by omega) (by omega)]) rn57 r56 hgr (fun _ _ _ => rfl) (by omega) q1 (by omega) (fun k => kne _ _ (by have := pne _ (o16 q q0 q1).1.2.1; omega))
  · rw [kne _ _ (by omega)]
    exact chn_eq l _ (fun c hc => kne _ _ (by omega)) o18
  · rcases o20 with hz | ⟨l', z1, z2, z3, z4, z5, z6, z7⟩
    · exact Or.inl hz
    · exact Or.inr ⟨l', z1, z2, z3, by rw [x16]; exact z4, z5, by rw [xa 52 (by omega) (by omega)]; exact z6, z7⟩
end CAL
