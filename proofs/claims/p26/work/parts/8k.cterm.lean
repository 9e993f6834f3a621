/-- a term of a guard, here and there -/
def c_tm (σ : e3_H) (r : Int) (R : e3_H) (ru k : Int) : Prop := (σ 75 (4 * r + k) = 2 ∧ R (ru + 3) k = σ 76 (4 * r + k) ∧ 0 ≤ σ 76 (4 * r + k) ∧ σ 76 (4 * r + k) < σ 56 r ∧ σ 58 (8 * r + σ 76 (4 * r + k)) = 0) ∨ (σ 75 (4 * r + k) = 1 ∧ R (ru + 3) k = -1 ∧ R (ru + 4) k = σ 76 (4 * r + k))
def c_sm (σ : e3_H) (r : Int) (R : e3_H) (ru d : Int) : Prop := c_tm σ r R ru (2 * d) ∧ R (ru + 2) d = σ 77 (2 * r + d) ∧ ((σ 77 (2 * r + d) = 0 ∧ σ 75 (4 * r + (2 * d + 1)) = 0) ∨ (a_isop (σ 77 (2 * r + d)) ∧ c_tm σ r R ru (2 * d + 1)))
section CGE
variable {t : Int → Int} {n s m : Nat} {ru fu : Int} {H : e3_H} {G : e3_G} {σ0 g R0 : e3_H} {ic : Nat} {σc gc Kc : e3_H} {Gc : e3_G} {l : List Int} {li la : Int}
theorem c_tp_C {j : Nat} {K2 : e3_H} (h : c_tp t n s m ru fu H G σ0 g R0 ic σc gc Kc Gc l li la) (hj : ic ≤ j) (a : c_tk t n s j K2) (b : x_C Kc K2) : c_tp t n s m ru fu H G σ0 g R0 j σc gc K2 Gc l li la := by
  obtain ⟨o1, ⟨o2, o2b, o2c, o2d⟩, ⟨o3, o4, o5, o6, o7, o7b⟩, ⟨o8, o9⟩, ⟨o10, o11⟩, o12, o13, ⟨o14, o15, o16⟩⟩ := h
  have at2 : ∀ a k : Int, a ≠ 3 → K2 a k = Kc a k := fun a k ha => b.1 a k (by simp only [List.mem_cons, List.not_mem_nil, or_false]; exact ha)
  have hd := c_M_ad o1
  have e7 : K2 fu 7 = Kc fu 7 := at2 _ _ (by omega)
  have hgr : ∀ a k : Int, 0 ≤ a → a ≤ 2 → k < σc 40 16 → gc a k = gc a k := fun _ _ _ _ _ => rfl
  have er : ∀ k, K2 ru k = Kc ru k := fun k => at2 _ _ (by omega)
  have M2 : c_M t n s j m ru fu σc (gc 3) K2 Gc := by
    obtain ⟨h1, h2, h3, h4, h5⟩ := o1
    have x3 := c_rl_eq (E := []) (K := K2) h3 (fun a k ha => at2 a k (by omega))
    have x4 := c_pl_eq (E := []) (K := K2) h4 (fun a k ha => at2 a k (by omega))
    rw [List.append_nil] at x3 x4
    exact ⟨a, ckd_eq h2 (fun a k ha => at2 a k (by omega)), x3, x4, by rw [at2 14 6 (by omega)]; exact h5⟩
  refine ⟨M2, ⟨c_F_C o2 (by omega) b, o2b, o2c, ?_⟩, ⟨p_inv_le o3 hj, o4, by omega, o6, o7, o7b⟩, ⟨fun q q0 q1 => ?_, o9⟩, ⟨?_, o11⟩, ?_, o13, ⟨?_, fun k k2 k3 k4 k6 => by rw [er]; exact o15 k k2 k3 k4 k6, fun j k j2 j6 => by rw [at2 _ _ (by omega)]; exact o16 j k j2 j6⟩⟩
  · unfold c_sk at o2d ⊢
    rw [er, er, er, er, er, er]
    exact o2d
  · rw [e7]
    refine ⟨c_pt_keep (o8 q q0 q1).1 ⟨[], by rw [List.append_nil]⟩ (fun _ _ _ => rfl) (fun _ _ _ => rfl) (by omega) hgr (fun _ _ _ => rfl) (by omega) q1 (by omega) (fun k => at2 _ _ (by have := (o8 q q0 q1).1.1.1; omega)), (o8 q q0 q1).2⟩
  · rw [er]
    refine chn_eq l _ (fun c hc => ?_) o10
    obtain ⟨q, q0, q1, q2⟩ := o11 c hc
    exact at2 _ _ (by have := (o8 q q0 q1).1.1.1; omega)
  · rw [er]; exact o12
  · rw [wys_eq (H := Kc) l 1 (fun c hc => ?_)]
    · exact o14
    · obtain ⟨q, q0, q1, q2⟩ := o11 c hc
      exact at2 _ _ (by have := (o8 q q0 q1).1.1.1; omega)
theorem bF_of {q : Int} {K2 : e3_H} {G2 : e3_G} (h : c_tp t n s m ru fu H G σ0 g R0 ic σc gc Kc Gc l li la) (hb : c_bad ru fu q Kc Gc K2 G2) : c_bF fu q H G K2 G2 := by
  have o2 := h.2.1
  exact ⟨hb.1, hb.2.1, c_F_E o2.1 o2.2.2.1 o2.2.1 (by have := o2.2.2.2.2.2.1.1; have := o2.2.1; omega) hb.2.2⟩
theorem cR_num {Q : Int → e3_H → e3_G → Prop} (h : c_tp t n s m ru fu H G σ0 g R0 ic σc gc Kc Gc l li la) (hok : ∀ j x, a_num t n ic = .inr (j, x) → ic < j → -1000000000 < x → x < 1000000000 → ∀ K2, c_tp t n s m ru fu H G σ0 g R0 j σc gc K2 Gc l li la → x_C Kc K2 → Q x K2 Gc) (hfl : ∀ q, a_num t n ic = .inl q → ∀ K2, c_bad ru fu q Kc Gc K2 Gc → Q (-2147483648) K2 Gc) : wR_readNumber Q Kc Gc := by
  have hd := (c_M_ad h.1).2.1
  exact cR_readNumber (H0 := Kc) (G0 := Gc) h.1 hd.1 (c_E_rf _ _ _ _) (fun j x he hij b1 b2 K2 hM hC => hok j x he hij b1 b2 K2 (c_tp_C h (by omega) hM.1 hC) hC) hfl
theorem ne_1 {a b k j : Int} (h : a ≠ b) : ¬ (a = b ∧ k = j) := fun z => h z.1
theorem cR_termN {Q : Int → e3_H → e3_G → Prop} {k : Nat} (hk : k < 4) (t1 : c_tp t n s m ru fu H G σ0 g R0 ic σc gc Kc Gc l li la) (hty : x_ty t n ic = 258)
    (hok : ∀ j σ2 K2 R2, a_term t n (4 * σ0 40 27 + k) ic σc = .inr (j, σ2) → c_tp t n s m ru fu H G σ0 g R2 j σ2 gc K2 Gc l li la → (∀ a b : Int, ¬ ((a = ru + 3 ∨ a = ru + 4) ∧ b = k) → R2 a b = R0 a b) → c_tm σ2 (σ0 40 27) R2 ru k → (∀ a b : Int, ¬ ((a = 75 ∨ a = 76) ∧ b = 4 * σ0 40 27 + k) → σ2 a b = σc a b) → K2 fu 7 = Kc fu 7 → K2 fu 8 = Kc fu 8 → ic < j → Q 1 K2 Gc)
    (hfl : ∀ q K2, a_term t n (4 * σ0 40 27 + k) ic σc = .inl q → c_bF fu q H G K2 Gc → Q 0 K2 Gc) : wR_readWholeName (fun x7 H5 G6 => (e3_oa G6 0 (ru + 3) k) ∧ ∀ H8 : e3_H, H8 = e3_up H5 (ru + 3) k x7 → (e3_ob G6 9 (H8 14 7)) ∧ (e3_oa G6 0 (H8 (H8 14 7) 9) k) ∧ ((((H8 (H8 (H8 14 7) 9) k) : Int) < 0 → (wR_readTerm_53 Q 0 H8 G6)) ∧ (¬ (((H8 (H8 (H8 14 7) 9) k) : Int) < 0) → (wR_readTerm_53 Q 1 H8 G6)))) Kc Gc := by
  obtain ⟨o1, ⟨o2, o2b, o2c, o2d⟩, ⟨o3, o4, o5, o6, o7, o7b⟩, _⟩ := id t1
  have s1 := o2d.1
  have obr := ga_ob (c := 9) o2d.2.1
  have s5b := o2d.2.2.2.2.1.2
  have q9 : Kc ru 9 = ru + 3 := o2d.2.2.2.2.1.1
  have hru1 : Kc 14 7 = ru := o1.2.2.1.1
  clear o2d o4 o5 o6 o7b
  have n14 : (14 : Int) ≠ ru + 3 := by omega
  have nru : ru ≠ ru + 3 := by omega
  have nf3 : fu ≠ 3 := by omega
  have oa3 : e3_oa Gc 0 (ru + 3) k := ga_oa s5b (by omega) (by omega)
  have ha : a_term t n (4 * σ0 40 27 + k) ic σc = (match a_bnd σc (x_wo t n ic) true with
      | none => .inl (x_sp t n ic : Int)
      | some k' => .inr (ic + 1, e3_up (e3_up σc 75 (4 * σ0 40 27 + k) 2) 76 (4 * σ0 40 27 + k) k')) := by
    unfold a_term
    rw [if_pos hty]
    rfl
  refine cR_wholeName t1 hty (fun k' hb k0 K2 t2 c2 => ⟨oa3, ?_⟩) (fun hb K2 hf => ⟨oa3, ?_⟩)
  · intro H8 e8
    obtain ⟨t8, f78, f88⟩ := c_tp_R (a := ru + 3) (j := k) (v := k') t2 (Or.inr ⟨by omega, by omega⟩)
    rw [← e8] at t8 f78 f88
    have hru8 : H8 14 7 = ru := t8.1.2.2.1.1
    have p9 : H8 ru 9 = ru + 3 := t8.2.1.2.2.2.2.2.2.2.1.1
    rw [hru8, p9]
    refine ⟨obr, oa3, ?_⟩
    rw [show H8 (ru + 3) k = k' by rw [e8, e3_up_self]]
    unfold wR_readTerm_53
    have hbr := a_bnd_rg hb
    rw [o7] at hbr
    have z75 : (e3_up (e3_up σc 75 (4 * σ0 40 27 + k) 2) 76 (4 * σ0 40 27 + k) k') 75 (4 * σ0 40 27 + k) = 2 := by rw [e3_up_ne (ne_1 (by decide)), e3_up_self]
    have z76 : (e3_up (e3_up σc 75 (4 * σ0 40 27 + k) 2) 76 (4 * σ0 40 27 + k) k') 76 (4 * σ0 40 27 + k) = k' := e3_up_self _ _ _ _
    have zz : ∀ a b : Int, a ≠ 75 → a ≠ 76 → (e3_up (e3_up σc 75 (4 * σ0 40 27 + k) 2) 76 (4 * σ0 40 27 + k) k') a b = σc a b := fun a b h1 h2 => by rw [e3_up_ne (ne_1 h2), e3_up_ne (ne_1 h1)]
    refine brF (Int.not_lt.mpr k0) ⟨Or.inr rfl, hok _ _ H8 _ (by rw [ha, hb]) (c_tp_σ t8 (g_up (g_up (g_rf _) (by decide)) (by decide))) (fun a b hn => e3_up_ne (fun z => hn ⟨Or.inl z.1, z.2⟩)) (Or.inl ⟨z75, ?_, ?_, ?_, ?_⟩) (fun a b hn => ?_) ?_ ?_ (Nat.lt_succ_self _)⟩
    · rw [z76, e3_up_self]
    · rw [z76]; exact k0
    · rw [z76, zz 56 _ (by decide) (by decide)]; exact hbr.2.1
    · rw [z76, zz 58 _ (by decide) (by decide)]; exact hbr.2.2.2.2 rfl
    · rw [e3_up_ne (fun z => hn ⟨Or.inr z.1, z.2⟩), e3_up_ne (fun z => hn ⟨Or.inl z.1, z.2⟩)]
    · rw [f78]; exact c2.1 fu 7 (by simp only [List.mem_cons, List.not_mem_nil, or_false]; exact nf3)
    · rw [f88]; exact c2.1 fu 8 (by simp only [List.mem_cons, List.not_mem_nil, or_false]; exact nf3)
  · intro H8 e8
    have b8 : c_bF fu (x_sp t n ic) H G H8 Gc := by
      rw [e8]
      exact ⟨by rw [e3_up_ne (ne_1 n14)]; exact hf.1, by rw [e3_up_ne (ne_1 n14)]; exact hf.2.1, c_F_up (c_F_f o2 o2c.1 hf) o2c (by omega)⟩
    have hru8 : H8 14 7 = ru := by rw [e8, e3_up_ne (ne_1 n14), hf.2.2.1 7 (by decide) (by decide)]; exact hru1
    have p9 : H8 ru 9 = ru + 3 := by rw [e8, e3_up_ne (ne_1 nru), hf.2.2.2 ru 9 (by simp only [List.mem_cons, List.not_mem_nil, or_false]; omega)]; exact q9
    rw [hru8, p9]
    refine ⟨obr, oa3, ?_⟩
    rw [show H8 (ru + 3) k = -1 by rw [e8, e3_up_self]]
    unfold wR_readTerm_53
    exact brT (by decide) ⟨Or.inl rfl, hfl _ H8 (by rw [ha, hb]) b8⟩
theorem cR_termM {Q : Int → e3_H → e3_G → Prop} {k : Nat} (hk : k < 4) (t1 : c_tp t n s m ru fu H G σ0 g R0 ic σc gc Kc Gc l li la) (hty : ¬ x_ty t n ic = 258) (h1 : R0 (ru + 3) k = -1)
    (hok : ∀ j σ2 K2 R2, a_term t n (4 * σ0 40 27 + k) ic σc = .inr (j, σ2) → c_tp t n s m ru fu H G σ0 g R2 j σ2 gc K2 Gc l li la → (∀ a b : Int, ¬ ((a = ru + 3 ∨ a = ru + 4) ∧ b = k) → R2 a b = R0 a b) → c_tm σ2 (σ0 40 27) R2 ru k → (∀ a b : Int, ¬ ((a = 75 ∨ a = 76) ∧ b = 4 * σ0 40 27 + k) → σ2 a b = σc a b) → K2 fu 7 = Kc fu 7 → K2 fu 8 = Kc fu 8 → ic < j → Q 1 K2 Gc)
    (hfl : ∀ q K2, a_term t n (4 * σ0 40 27 + k) ic σc = .inl q → c_bF fu q H G K2 Gc → Q 0 K2 Gc) : wR_readNumber (fun x15 H13 G14 => (e3_oa G14 0 (ru + 4) k) ∧ ∀ H16 : e3_H, H16 = e3_up H13 (ru + 4) k x15 → (e3_ob G14 9 (H16 14 7)) ∧ (e3_oa G14 0 (H16 (H16 14 7) 10) k) ∧ ((((H16 (H16 (H16 14 7) 10) k) : Int) = (-2147483648) → (wR_readTerm_86 Q 0 H16 G14)) ∧ (¬ (((H16 (H16 (H16 14 7) 10) k) : Int) = (-2147483648)) → (wR_readTerm_86 Q 1 H16 G14)))) Kc Gc := by
  obtain ⟨o1, ⟨o2, o2b, o2c, o2d⟩, ⟨o3, o4, o5, o6, o7, o7b⟩, _⟩ := id t1
  have s1 := o2d.1
  have obr := ga_ob (c := 9) o2d.2.1
  have s6b := o2d.2.2.2.2.2.1.2
  have q10 : Kc ru 10 = ru + 4 := o2d.2.2.2.2.2.1.1
  have hru1 : Kc 14 7 = ru := o1.2.2.1.1
  clear o2d o4 o5 o6 o7b
  have n14 : (14 : Int) ≠ ru + 4 := by omega
  have nru : ru ≠ ru + 4 := by omega
  have nf3 : fu ≠ 3 := by omega
  have oa4 : e3_oa Gc 0 (ru + 4) k := ga_oa s6b (by omega) (by omega)
  have n34 : ru + 3 ≠ ru + 4 := by omega
  have ha : a_term t n (4 * σ0 40 27 + k) ic σc = (match a_num t n ic with
      | .inl q => .inl q
      | .inr (j, x) => .inr (j, e3_up (e3_up σc 75 (4 * σ0 40 27 + k) 1) 76 (4 * σ0 40 27 + k) x)) := by
    unfold a_term
    rw [if_neg hty]
    rfl
  refine cR_num t1 (fun j x he hij b1 b2 K2 t2 c2 => ⟨oa4, ?_⟩) (fun q he K2 hb => ⟨oa4, ?_⟩)
  · intro H16 e16
    obtain ⟨t8, f78, f88⟩ := c_tp_R (a := ru + 4) (j := k) (v := x) t2 (Or.inr ⟨by omega, by omega⟩)
    rw [← e16] at t8 f78 f88
    have hru8 : H16 14 7 = ru := t8.1.2.2.1.1
    have p10 : H16 ru 10 = ru + 4 := t8.2.1.2.2.2.2.2.2.2.2.1.1
    rw [hru8, p10]
    refine ⟨obr, oa4, ?_⟩
    rw [show H16 (ru + 4) k = x by rw [e16, e3_up_self]]
    unfold wR_readTerm_86
    have z75 : (e3_up (e3_up σc 75 (4 * σ0 40 27 + k) 1) 76 (4 * σ0 40 27 + k) x) 75 (4 * σ0 40 27 + k) = 1 := by rw [e3_up_ne (ne_1 (by decide)), e3_up_self]
    have z76 : (e3_up (e3_up σc 75 (4 * σ0 40 27 + k) 1) 76 (4 * σ0 40 27 + k) x) 76 (4 * σ0 40 27 + k) = x := e3_up_self _ _ _ _
    refine brF (by omega) ⟨Or.inr rfl, hok _ _ H16 _ (by rw [ha, he]) (c_tp_σ t8 (g_up (g_up (g_rf _) (by decide)) (by decide))) (fun a b hn => e3_up_ne (fun z => hn ⟨Or.inr z.1, z.2⟩)) (Or.inr ⟨z75, ?_, ?_⟩) (fun a b hn => ?_) ?_ ?_ hij⟩
    · rw [e3_up_ne (ne_1 n34)]; exact h1
    · rw [z76, e3_up_self]
    · rw [e3_up_ne (fun z => hn ⟨Or.inr z.1, z.2⟩), e3_up_ne (fun z => hn ⟨Or.inl z.1, z.2⟩)]
    · rw [f78]; exact c2.1 fu 7 (by simp only [List.mem_cons, List.not_mem_nil, or_false]; exact nf3)
    · rw [f88]; exact c2.1 fu 8 (by simp only [List.mem_cons, List.not_mem_nil, or_false]; exact nf3)
  · intro H16 e16
    have hb2 := bF_of t1 hb
    have b8 : c_bF fu q H G H16 Gc := by
      rw [e16]
      exact ⟨by rw [e3_up_ne (ne_1 n14)]; exact hb2.1, by rw [e3_up_ne (ne_1 n14)]; exact hb2.2.1, c_F_up hb2.2.2 o2c (by omega)⟩
    have hru8 : H16 14 7 = ru := by rw [e16, e3_up_ne (ne_1 n14), hb.2.2.2.2.2.1 7 (by decide) (by decide)]; exact hru1
    have p10 : H16 ru 10 = ru + 4 := by rw [e16, e3_up_ne (ne_1 nru), hb.2.2.2.2.2.2.1 10 (by decide) (by decide)]; exact q10
    rw [hru8, p10]
    refine ⟨obr, oa4, ?_⟩
    rw [show H16 (ru + 4) k = -2147483648 by rw [e16, e3_up_self]]
    unfold wR_readTerm_86
    exact brT rfl ⟨Or.inl rfl, hfl _ H16 (by rw [ha, he]) b8⟩
theorem cR_term {Q : Int → e3_H → e3_G → Prop} {k : Nat} (hk : k < 4) (h : c_tp t n s m ru fu H G σ0 g R0 ic σc gc Kc Gc l li la)
    (hok : ∀ j σ2 K2 R2, a_term t n (4 * σ0 40 27 + k) ic σc = .inr (j, σ2) → c_tp t n s m ru fu H G σ0 g R2 j σ2 gc K2 Gc l li la → (∀ a b : Int, ¬ ((a = ru + 3 ∨ a = ru + 4) ∧ b = k) → R2 a b = R0 a b) → c_tm σ2 (σ0 40 27) R2 ru k → (∀ a b : Int, ¬ ((a = 75 ∨ a = 76) ∧ b = 4 * σ0 40 27 + k) → σ2 a b = σc a b) → K2 fu 7 = Kc fu 7 → K2 fu 8 = Kc fu 8 → ic < j → Q 1 K2 Gc)
    (hfl : ∀ q K2, a_term t n (4 * σ0 40 27 + k) ic σc = .inl q → c_bF fu q H G K2 Gc → Q 0 K2 Gc) : wR_readTerm Q k Kc Gc := by
  have o2d := h.2.1.2.2.2
  have s1 := o2d.1
  have s5 : Kc ru 9 = ru + 3 := o2d.2.2.2.2.1.1
  have s5b := o2d.2.2.2.2.1.2
  have hru : Kc 14 7 = ru := h.1.2.2.1.1
  have obr := ga_ob (c := 9) o2d.2.1
  unfold wR_readTerm
  rw [hru, s5]
  refine ⟨obr, ga_oa s5b (by omega) (by omega), ?_⟩
  intro H1 e1
  obtain ⟨t1, f7, f8⟩ := c_tp_R (a := ru + 3) (j := k) (v := -1) h (Or.inr ⟨by omega, by omega⟩)
  rw [← e1] at t1 f7 f8
  have hru1 : H1 14 7 = ru := t1.1.2.2.1.1
  have q9 : H1 ru 9 = ru + 3 := t1.2.1.2.2.2.2.2.2.2.1.1
  have q10 : H1 ru 10 = ru + 4 := t1.2.1.2.2.2.2.2.2.2.2.1.1
  rw [hru1, q9, q10, (c_now t1.1.1).1, x_mn32]
  have hR : ∀ R2 : e3_H, (∀ a b : Int, ¬ ((a = ru + 3 ∨ a = ru + 4) ∧ b = k) → R2 a b = (e3_up R0 (ru + 3) k (-1)) a b) → ∀ a b : Int, ¬ ((a = ru + 3 ∨ a = ru + 4) ∧ b = k) → R2 a b = R0 a b := fun R2 h2 a b hn => by rw [h2 a b hn, e3_up_ne (fun z => hn ⟨Or.inl z.1, z.2⟩)]
  refine ⟨fun hty => ⟨obr, cR_termN hk t1 hty (fun j σ2 K2 R2 he h2 h3 h4 h5 h6 h7 h8 => hok j σ2 K2 R2 he h2 (hR R2 h3) h4 h5 (by rw [h6]; exact f7) (by rw [h7]; exact f8) h8) hfl⟩, fun hty => ⟨obr, cR_termM hk t1 hty (e3_up_self _ _ _ _) (fun j σ2 K2 R2 he h2 h3 h4 h5 h6 h7 h8 => hok j σ2 K2 R2 he h2 (hR R2 h3) h4 h5 (by rw [h6]; exact f7) (by rw [h7]; exact f8) h8) hfl⟩⟩
end CGE
