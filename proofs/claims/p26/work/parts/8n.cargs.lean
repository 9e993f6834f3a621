/-- NAMES handed over, here and there -/
def c_ar (σ : e3_H) (r : Int) (R : e3_H) (ru : Int) : Prop := R ru 15 = σ 83 r ∧ 0 ≤ σ 83 r ∧ ∀ k : Nat, k < 3 → (k : Int) < σ 83 r → R (ru + 5) k = σ 84 (3 * r + k) ∧ R (ru + 6) k = σ 85 (3 * r + k)
def c_an (σ : e3_H) (r : Int) (R : e3_H) (ru : Int) : Prop := R ru 11 = σ 79 r ∧ ((σ 79 r = 0 ∧ R ru 12 = σ 80 r) ∨ (σ 79 r = 1 ∧ R ru 12 = σ 80 r ∧ 0 ≤ σ 80 r ∧ σ 80 r < σ 56 r ∧ σ 58 (8 * r + σ 80 r) = 0) ∨ (σ 79 r = 2 ∧ R ru 13 = σ 81 r ∧ R ru 14 = σ 82 r ∧ c_ar σ r R ru))
section CAN
variable {t : Int → Int} {n s m : Nat} {ru fu : Int} {H : e3_H} {G : e3_G} {σ0 g : e3_H} {gc : e3_H} {Gc : e3_G} {l : List Int} {li la : Int}
theorem ar_arg {σ R : e3_H} {r ru k sp : Int} (hr : σ 40 27 = r) (h : c_ar σ r R ru) : c_ar (a_arg1 σ k sp) r (e3_up (if R ru 15 < 3 then e3_up (e3_up R (ru + 5) (R ru 15) k) (ru + 6) (R ru 15) sp else R) ru 15 (R ru 15 + 1)) ru := by
  obtain ⟨h1, h2, h3⟩ := h
  unfold a_arg1 c_ar
  rw [hr, h1]
  refine ⟨by rw [e3_up_self, e3_up_self], by rw [e3_up_self]; omega, fun c c1 c2 => ?_⟩
  rw [e3_up_self] at c2
  by_cases hz : σ 83 r < 3
  · rw [if_pos hz, if_pos hz]
    by_cases hc : (c : Int) = σ 83 r
    · rw [hc]
      simp (disch := omega) only [e3_up_self, e3_up_ne]
      exact ⟨trivial, trivial⟩
    · obtain ⟨a, b⟩ := h3 c c1 (by omega)
      rw [e3_up_ne (by omega), e3_up_ne (by omega), e3_up_ne (by omega), e3_up_ne (by omega), e3_up_ne (by omega), e3_up_ne (by omega), e3_up_ne (by omega), e3_up_ne (by omega), e3_up_ne (by omega), e3_up_ne (by omega), e3_up_ne (by omega), e3_up_ne (by omega)]
      exact ⟨a, b⟩
  · rw [if_neg hz, if_neg hz]
    obtain ⟨a, b⟩ := h3 c c1 (by omega)
    rw [e3_up_ne (by omega), e3_up_ne (by omega), e3_up_ne (by omega), e3_up_ne (by omega)]
    exact ⟨a, b⟩
theorem cU_addArg {Q : e3_H → e3_G → Prop} {R0 : e3_H} {ic : Nat} {σc Kc : e3_H} {k sp : Int} (h : c_tp t n s m ru fu H G σ0 g R0 ic σc gc Kc Gc l li la) (h15 : 0 ≤ R0 ru 15 ∧ R0 ru 15 ≤ 1000000) (hQ : ∀ K2, c_tp t n s m ru fu H G σ0 g (e3_up (if R0 ru 15 < 3 then e3_up (e3_up R0 (ru + 5) (R0 ru 15) k) (ru + 6) (R0 ru 15) sp else R0) ru 15 (R0 ru 15 + 1)) ic σc gc K2 Gc l li la → K2 fu 7 = Kc fu 7 → K2 fu 8 = Kc fu 8 → Q K2 Gc) : wU_addArg Q ru k sp Kc Gc := by
  have o15 := h.2.2.2.2.2.2.2.2.1
  have e15 : Kc ru 15 = R0 ru 15 := o15 15 (by decide) (Or.inl (by decide)) (by decide) (by decide)
  have sk := h.2.1.2.2.2
  have s1 := sk.1
  have obr := ga_ob (c := 9) sk.2.1
  have s7 : Kc ru 16 = ru + 5 := sk.2.2.2.2.2.2.1.1
  have s7b := sk.2.2.2.2.2.2.1.2
  have s8b := sk.2.2.2.2.2.2.2.2
  have last : ∀ (R K : e3_H), c_tp t n s m ru fu H G σ0 g R ic σc gc K Gc l li la → K ru 15 = R0 ru 15 → (R = if R0 ru 15 < 3 then e3_up (e3_up R0 (ru + 5) (R0 ru 15) k) (ru + 6) (R0 ru 15) sp else R0) → K fu 7 = Kc fu 7 → K fu 8 = Kc fu 8 → wU_addArg_28 Q ru K Gc := by
    intro R K hK hk hR f7 f8
    unfold wU_addArg_28
    rw [hk, e3_w32_id (by omega) (by omega)]
    refine ⟨obr, obr, ?_⟩
    intro H1 e1
    obtain ⟨t1, g7, g8⟩ := c_tp_R (a := ru) (j := 15) (v := R0 ru 15 + 1) hK (Or.inl ⟨rfl, Or.inr (Or.inl ⟨by decide, by decide⟩)⟩)
    rw [← e1] at t1 g7 g8
    rw [hR] at t1
    exact hQ H1 t1 (by rw [g7]; exact f7) (by rw [g8]; exact f8)
  unfold wU_addArg
  rw [e15, s7]
  refine ⟨obr, fun hz => ⟨obr, obr, ga_oa s7b (by omega) (by omega), ?_⟩, fun hz => last R0 Kc h e15 (by rw [if_neg hz]) rfl rfl⟩
  intro H2 e2
  obtain ⟨t2, g7, g8⟩ := c_tp_R (a := ru + 5) (j := R0 ru 15) (v := k) h (Or.inr ⟨by omega, by omega⟩)
  rw [← e2] at t2 g7 g8
  have u15 : H2 ru 15 = R0 ru 15 := by rw [e2, e3_up_ne (ne_1 (by omega))]; exact e15
  have u17 : H2 ru 17 = ru + 6 := t2.2.1.2.2.2.2.2.2.2.2.2.2.1
  rw [u15, u17]
  refine ⟨obr, obr, ga_oa s8b (by omega) (by omega), ?_⟩
  intro H6 e6
  obtain ⟨t6, k7, k8⟩ := c_tp_R (a := ru + 6) (j := R0 ru 15) (v := sp) t2 (Or.inr ⟨by omega, by omega⟩)
  rw [← e6] at t6 k7 k8
  refine last _ H6 t6 (by rw [e6, e3_up_ne (ne_1 (by omega))]; exact u15) (by rw [if_pos hz]) (by rw [k7]; exact g7) (by rw [k8]; exact g8)
theorem cR_args {Q : Int → e3_H → e3_G → Prop} {ic0 : Nat} {σ' K0 R0 : e3_H} (hab : ∀ k : Nat, (k : Int) < σ' 56 (σ0 40 27) → b_bit (σ' 40 31) k = true)
    (hok : ∀ j σ2 K2 R2, c_tp t n s m ru fu H G σ0 g R2 j σ2 gc K2 Gc l li la → c_ar σ2 (σ0 40 27) R2 ru → (∀ a b : Int, ¬ (a = ru ∧ b = 15) → ¬ (a = ru + 5 ∨ a = ru + 6) → R2 a b = R0 a b) → (∀ a b : Int, ¬ (83 ≤ a ∧ a ≤ 85) → σ2 a b = σ' a b) → K2 fu 7 = K0 fu 7 → K2 fu 8 = K0 fu 8 → ic0 < j → a_args t n 1700 (ic0 + 2) σ' = .inr (j, σ2) → Q 1 K2 Gc)
    (hfl : ∀ q K2, c_bF fu q H G K2 Gc → a_args t n 1700 (ic0 + 2) σ' = .inl q → Q 0 K2 Gc) :
    ∀ (f ic cnt : Nat) (σc Kc R : e3_H), 1700 ≤ f + ic + 1 → c_tp t n s m ru fu H G σ0 g R ic σc gc Kc Gc l li la → x_nf t n ic → ic0 ≤ ic → (cnt : Int) ≤ ic → cnt = (σc 83 (σ0 40 27)).toNat → c_ar σc (σ0 40 27) R ru → (∀ a b : Int, ¬ (a = ru ∧ b = 15) → ¬ (a = ru + 5 ∨ a = ru + 6) → R a b = R0 a b) → (∀ a b : Int, ¬ (83 ≤ a ∧ a ≤ 85) → σc a b = σ' a b) → Kc fu 7 = K0 fu 7 → Kc fu 8 = K0 fu 8 → a_args t n 1700 (ic0 + 2) σ' = a_args t n f (ic + 1) σc → wR_readCall_68 Q (fun l1 H G => wR_readCall_45 Q f l1 H G) cnt Kc Gc := by
  intro f
  induction f with
  | zero => intro ic cnt σc Kc R hf h hnf _ _ _ _ _ _ _ _ _; have := c_lt h.1.1 hnf; have := h.1.1.2.1; omega
  | succ f ih =>
    intro ic cnt σc Kc R hf h hnf hii hci hcn har hR hσ f7 f8 heq
    have his := c_lt h.1.1 hnf
    have hs1601 := h.1.1.2.1
    unfold wR_readCall_68
    refine c_tp_step h hnf (fun K1 t1 g7 g8 _ => ?_)
    obtain ⟨n7, n8, n9⟩ := c_now t1.1.1
    have hru : K1 14 7 = ru := t1.1.2.2.1.1
    have obr := ga_ob (c := 9) t1.2.1.2.2.2.2.1
    have o7 : σc 40 27 = σ0 40 27 := t1.2.2.1.2.2.2.2.1
    have h8 := t1.2.2.1.1.2.2.2.1
    rw [n7]
    refine ⟨fun hty => ?_, fun hty => c_tp_fail t1 (by decide) (fun K2 hb => ⟨Or.inl rfl, hfl _ K2 hb (by rw [heq]; unfold a_args; rw [if_neg hty])⟩)⟩
    rw [hru, n9]
    refine ⟨obr, cU_nameNumber t1.1.2.2.1 h8 ?_⟩
    have hr := a_no_rg (σ := σc) (v := x_wo t n (ic + 1)) h8
    by_cases hz : a_no σc (x_wo t n (ic + 1)) < 0
    · rw [if_pos hz]
      refine brT (by decide) (c_tp_fail t1 (by decide) (fun K2 hb => ⟨Or.inl rfl, hfl _ K2 hb ?_⟩))
      rw [heq]
      unfold a_args
      rw [if_pos hty]
      unfold a_bnd
      rw [if_pos hz]
    · rw [if_neg hz]
      have hbit : b_bit (σc 40 31) (a_no σc (x_wo t n (ic + 1))).toNat = true := by
        rw [hσ 40 31 (by omega)]
        refine hab _ ?_
        rw [Int.toNat_of_nonneg (by omega), ← hσ 56 _ (by omega), ← o7]
        omega
      have hbnd : a_bnd σc (x_wo t n (ic + 1)) false = some (a_no σc (x_wo t n (ic + 1))) := by
        unfold a_bnd
        rw [if_neg hz, if_neg (by rw [hbit]; decide), if_neg (fun z => by cases z.1)]
      have hstep : a_args t n 1700 (ic0 + 2) σ' = (if x_ty t n (ic + 2) = 44 then a_args t n f (ic + 3) (a_arg1 σc (a_no σc (x_wo t n (ic + 1))) (x_sp t n (ic + 1))) else if x_ty t n (ic + 2) = 41 then .inr (ic + 3, a_arg1 σc (a_no σc (x_wo t n (ic + 1))) (x_sp t n (ic + 1))) else .inl (x_sp t n (ic + 2) : Int)) := by
        rw [heq]
        conv => lhs; unfold a_args
        rw [if_pos hty, hbnd]
      refine brF hz ⟨by rw [hru]; exact obr, ?_⟩
      rw [hru, n8]
      have h15 : R ru 15 = σc 83 (σ0 40 27) := har.1
      have h83 := har.2.1
      refine cU_addArg (k := a_no σc (x_wo t n (ic + 1))) (sp := x_sp t n (ic + 1)) t1 (by omega) (fun K2 t2 k7 k8 => ?_)
      have har2 := ar_arg (k := a_no σc (x_wo t n (ic + 1))) (sp := x_sp t n (ic + 1)) o7 har
      have t2' := c_tp_σ t2 (g_arg1 (σ := σc) (k := a_no σc (x_wo t n (ic + 1))) (sp := x_sp t n (ic + 1)))
      have hR2 : ∀ a b : Int, ¬ (a = ru ∧ b = 15) → ¬ (a = ru + 5 ∨ a = ru + 6) → (e3_up (if R ru 15 < 3 then e3_up (e3_up R (ru + 5) (R ru 15) (a_no σc (x_wo t n (ic + 1)))) (ru + 6) (R ru 15) (x_sp t n (ic + 1)) else R) ru 15 (R ru 15 + 1)) a b = R0 a b := by
        intro a b h1 h2
        rw [e3_up_ne h1]
        split
        · rw [e3_up_ne (fun z => h2 (Or.inr z.1)), e3_up_ne (fun z => h2 (Or.inl z.1))]; exact hR a b h1 h2
        · exact hR a b h1 h2
      have hσ2 : ∀ a b : Int, ¬ (83 ≤ a ∧ a ≤ 85) → a_arg1 σc (a_no σc (x_wo t n (ic + 1))) (x_sp t n (ic + 1)) a b = σ' a b := by
        intro a b hn
        unfold a_arg1
        rw [e3_up_ne (fun z => hn (by omega))]
        split
        · rw [e3_up_ne (fun z => hn (by omega)), e3_up_ne (fun z => hn (by omega))]; exact hσ a b hn
        · exact hσ a b hn
      have e83 : a_arg1 σc (a_no σc (x_wo t n (ic + 1))) (x_sp t n (ic + 1)) 83 (σ0 40 27) = σc 83 (σ0 40 27) + 1 := by
        unfold a_arg1
        rw [o7, e3_up_self]
      refine c_tp_step t2' ⟨by omega, by omega⟩ (fun K3 t3 q7 q8 _ => ?_)
      rw [w_p1 (by omega)]
      have p7 : K3 fu 7 = K0 fu 7 := by rw [q7, k7, g7]; exact f7
      have p8 : K3 fu 8 = K0 fu 8 := by rw [q8, k8, g8]; exact f8
      have last : x_ty t n (ic + 2) ≠ 44 → wR_readCall_147 Q K3 Gc := by
        intro hn44
        rw [if_neg hn44] at hstep
        unfold wR_readCall_147
        refine cR_expect t3.1.1 (by decide) (fun h41 K4 a4 b4 => ⟨Or.inr rfl, ?_⟩) (fun h41 K4 hf4 => ⟨Or.inl rfl, hfl _ K4 ⟨hf4.1, hf4.2.1, c_F_f t3.2.1.1 t3.2.1.2.2.1.1 hf4⟩ (by rw [hstep, if_neg h41])⟩)
        have nf3 : fu ≠ 3 := by have := t3.2.1.2.2.1; omega
        have at4 : ∀ a k : Int, a ≠ 3 → K4 a k = K3 a k := fun a k ha => b4.1 a k (by simp only [List.mem_cons, List.not_mem_nil, or_false]; exact ha)
        exact hok _ _ K4 _ (c_tp_s t3 a4 b4) har2 hR2 hσ2 (by rw [at4 _ _ nf3]; exact p7) (by rw [at4 _ _ nf3]; exact p8) (by omega) (by rw [hstep, if_pos h41])
      show wR_readCall_45 Q (f + 1) ((cnt + 1 : Nat) : Int) K3 Gc
      unfold wR_readCall_45
      rw [(c_now t3.1.1).1]
      refine brF (by omega) (brF (by omega) ⟨fun h44 => ?_, last⟩)
      rw [if_pos h44] at hstep
      exact ih (ic + 2) (cnt + 1) _ K3 _ (by omega) t3 ⟨by show x_ty t n (ic + 1 + 1) ≠ 256; omega, by show x_ty t n (ic + 1 + 1) ≠ 257; omega⟩ (by omega) (by omega) (by rw [e83]; omega) har2 hR2 hσ2 p7 p8 hstep
theorem cT_typeNext {Q : Int → e3_H → e3_G → Prop} {i : Nat} {K : e3_H} (h : c_tk t n s i K) (hnf : x_nf t n i) (hQ : Q (x_ty t n (i + 1)) K Gc) : wT_typeBehind Q 1 K Gc := by
  have hlt := c_lt h hnf
  obtain ⟨h1, h2, h3, h4, h5, h6, h7, h8, h9, h10⟩ := h
  unfold wT_typeBehind wJ_min_II wJ_min_II_10
  rw [h1, h6, e3_w32_id (x := (i : Int) + 1) (by omega) (by omega), e3_w32_id (x := (s : Int) - 1) (by omega) (by omega)]
  have e := (h3 (i + 1) hlt).1
  refine ⟨fun hz => absurd hlt (by omega), fun hz => ⟨by omega, ?_⟩⟩
  rw [show (i : Int) + 1 = ((i + 1 : Nat) : Int) by omega, e]
  exact hQ
theorem cR_answer {Q : Int → e3_H → e3_G → Prop} {R0 : e3_H} {ic : Nat} {σc Kc : e3_H} (h : c_tp t n s m ru fu H G σ0 g R0 ic σc gc Kc Gc l li la) (hab : ∀ k : Nat, (k : Int) < σc 56 (σ0 40 27) → b_bit (σc 40 31) k = true) (h11 : R0 ru 11 = 0) (h15 : R0 ru 15 = 0)
    (hok : ∀ j σ2 K2 R2, a_answer t n ic σc = .inr (j, σ2) → c_tp t n s m ru fu H G σ0 g R2 j σ2 gc K2 Gc l li la → (∀ a b : Int, ¬ (a = ru ∧ 11 ≤ b ∧ b ≤ 15) → ¬ (a = ru + 5 ∨ a = ru + 6) → R2 a b = R0 a b) → c_an σ2 (σ0 40 27) R2 ru → (∀ a b : Int, ¬ (79 ≤ a ∧ a ≤ 85) → σ2 a b = σc a b) → K2 fu 7 = Kc fu 7 → K2 fu 8 = Kc fu 8 → ic < j → Q 1 K2 Gc)
    (hfl : ∀ q K2, a_answer t n ic σc = .inl q → c_bF fu q H G K2 Gc → Q 0 K2 Gc) : wR_readAnswer Q Kc Gc := by
  have o7 : σc 40 27 = σ0 40 27 := h.2.2.1.2.2.2.2.1
  have hru : Kc 14 7 = ru := h.1.2.2.1.1
  have sk := h.2.1.2.2.2
  have s1 := sk.1
  have obr := ga_ob (c := 9) sk.2.1
  obtain ⟨n7, n8, n9⟩ := c_now h.1.1
  have n14 : (14 : Int) ≠ ru := by omega
  unfold wR_readAnswer
  rw [n7]
  refine ⟨fun hty => cT_typeNext h.1.1 ⟨by omega, by omega⟩ ⟨fun h40 => ?_, fun h40 => ?_⟩, fun hty => ?_⟩
  · have hae : a_answer t n ic σc = a_args t n 1700 (ic + 2) (e3_up (e3_up (e3_up (e3_up σc 82 (σ0 40 27) (x_sp t n ic)) 83 (σ0 40 27) 0) 81 (σ0 40 27) (x_wo t n ic)) 79 (σ0 40 27) 2) := by
      unfold a_answer
      rw [if_pos hty, if_pos h40, o7]
    rw [hae] at hok hfl
    unfold wR_readCall
    rw [hru]
    refine ⟨obr, ?_⟩
    intro H1 e1
    obtain ⟨t1, p7, p8⟩ := c_tp_R (a := ru) (j := 11) (v := 2) h (Or.inl ⟨rfl, Or.inr (Or.inl ⟨by decide, by decide⟩)⟩)
    rw [← e1] at t1 p7 p8
    rw [t1.1.2.2.1.1, (c_now t1.1.1).2.2]
    refine ⟨obr, ?_⟩
    intro H3 e3
    obtain ⟨t3, q7, q8⟩ := c_tp_R (a := ru) (j := 13) (v := x_wo t n ic) t1 (Or.inl ⟨rfl, Or.inr (Or.inl ⟨by decide, by decide⟩)⟩)
    rw [← e3] at t3 q7 q8
    rw [t3.1.2.2.1.1, (c_now t3.1.1).2.1]
    refine ⟨obr, ?_⟩
    intro H5 e5
    obtain ⟨t5, r7, r8⟩ := c_tp_R (a := ru) (j := 14) (v := x_sp t n ic) t3 (Or.inl ⟨rfl, Or.inr (Or.inl ⟨by decide, by decide⟩)⟩)
    rw [← e5] at t5 r7 r8
    have t5' := c_tp_σ (σ2 := e3_up (e3_up (e3_up (e3_up σc 82 (σ0 40 27) (x_sp t n ic)) 83 (σ0 40 27) 0) 81 (σ0 40 27) (x_wo t n ic)) 79 (σ0 40 27) 2) t5 (g_up (g_up (g_up (g_up (g_rf _) (by decide)) (by decide)) (by decide)) (by decide))
    refine c_tp_step t5' ⟨by omega, by omega⟩ (fun K7 t7 u7 u8 _ => ?_)
    have v7 : K7 fu 7 = Kc fu 7 := by rw [u7, r7, q7]; exact p7
    have v8 : K7 fu 8 = Kc fu 8 := by rw [u8, r8, q8]; exact p8
    have z83 : (e3_up (e3_up (e3_up (e3_up σc 82 (σ0 40 27) (x_sp t n ic)) 83 (σ0 40 27) 0) 81 (σ0 40 27) (x_wo t n ic)) 79 (σ0 40 27) 2) 83 (σ0 40 27) = 0 := by rw [e3_up_ne (ne_1 (by decide)), e3_up_ne (ne_1 (by decide)), e3_up_self]
    refine ⟨1701, brF (by decide) (brT rfl ?_)⟩
    refine cR_args (Q := fun x6 H4 G5 => ((x6 : Int) = 0 ∨ x6 = 1) ∧ Q x6 H4 G5) (ic0 := ic) (K0 := K7) (σ' := e3_up (e3_up (e3_up (e3_up σc 82 (σ0 40 27) (x_sp t n ic)) 83 (σ0 40 27) 0) 81 (σ0 40 27) (x_wo t n ic)) 79 (σ0 40 27) 2) (R0 := e3_up (e3_up (e3_up R0 ru 11 2) ru 13 (x_wo t n ic)) ru 14 (x_sp t n ic)) (fun k hk => ?_) (fun j σ2 K2 R2 t2 har hR hσ f7 f8 hij he => ⟨Or.inr rfl, hok j σ2 K2 R2 he t2 (fun a b h1 h2 => ?_) ⟨?_, Or.inr (Or.inr ⟨?_, ?_, ?_, har⟩)⟩ (fun a b h1 => ?_) (by rw [f7]; exact v7) (by rw [f8]; exact v8) hij⟩) (fun q K2 hb he => ⟨Or.inl rfl, hfl q K2 he hb⟩) 1700 (ic + 1) 0 _ K7 _ (by omega) t7 ⟨by omega, by omega⟩ (by omega) (by omega) (by rw [z83]; rfl) ⟨?_, by rw [z83]; omega, fun k _ hk => by rw [z83] at hk; omega⟩ (fun _ _ _ _ => rfl) (fun _ _ _ => rfl) rfl rfl rfl
    · rw [e3_up_ne (ne_1 (by decide)), e3_up_ne (ne_1 (by decide)), e3_up_ne (ne_1 (by decide)), e3_up_ne (ne_1 (by decide))] at hk ⊢
      exact hab k hk
    · rw [hR a b (fun z => h1 ⟨z.1, by omega, by omega⟩) h2, e3_up_ne (fun z => h1 ⟨z.1, by omega, by omega⟩), e3_up_ne (fun z => h1 ⟨z.1, by omega, by omega⟩), e3_up_ne (fun z => h1 ⟨z.1, by omega, by omega⟩)]
    · rw [hR ru 11 (fun z => by omega) (fun z => by omega), e3_up_ne (fun z => by omega), e3_up_ne (fun z => by omega), e3_up_self, hσ 79 _ (by decide), e3_up_self]
    · rw [hσ 79 _ (by decide), e3_up_self]
    · rw [hR ru 13 (fun z => by omega) (fun z => by omega), e3_up_ne (fun z => by omega), e3_up_self, hσ 81 _ (by decide), e3_up_ne (ne_1 (by decide)), e3_up_self]
    · rw [hR ru 14 (fun z => by omega) (fun z => by omega), e3_up_self, hσ 82 _ (by decide), e3_up_ne (ne_1 (by decide)), e3_up_ne (ne_1 (by decide)), e3_up_ne (ne_1 (by decide)), e3_up_self]
    · rw [hσ a b (fun z => h1 (by omega)), e3_up_ne (fun z => h1 (by omega)), e3_up_ne (fun z => h1 (by omega)), e3_up_ne (fun z => h1 (by omega)), e3_up_ne (fun z => h1 (by omega))]
    · rw [z83, e3_up_ne (fun z => by omega), e3_up_ne (fun z => by omega), e3_up_ne (fun z => by omega)]; exact h15
  · have hae : a_answer t n ic σc = (match a_bnd σc (x_wo t n ic) true with
        | none => .inl (x_sp t n ic : Int)
        | some k => .inr (ic + 1, e3_up (e3_up (e3_up (e3_up (e3_up σc 82 (σ0 40 27) (x_sp t n ic)) 83 (σ0 40 27) 0) 81 (σ0 40 27) (x_wo t n ic)) 79 (σ0 40 27) 1) 80 (σ0 40 27) k)) := by
      unfold a_answer
      rw [if_pos hty, if_neg h40, o7]
      rfl
    rw [hru]
    refine ⟨obr, ?_⟩
    intro H7 e7
    obtain ⟨t1, p7, p8⟩ := c_tp_R (a := ru) (j := 11) (v := 1) h (Or.inl ⟨rfl, Or.inr (Or.inl ⟨by decide, by decide⟩)⟩)
    rw [← e7] at t1 p7 p8
    have hru7 : H7 14 7 = ru := t1.1.2.2.1.1
    rw [hru7]
    refine cR_wholeName t1 hty (fun k hb k0 K2 t2 c2 => ⟨obr, ?_⟩) (fun hb K2 hf => ⟨obr, ?_⟩)
    · intro H12 e12
      obtain ⟨t3, q7, q8⟩ := c_tp_R (a := ru) (j := 12) (v := k) t2 (Or.inl ⟨rfl, Or.inr (Or.inl ⟨by decide, by decide⟩)⟩)
      rw [← e12] at t3 q7 q8
      have hru8 : H12 14 7 = ru := t3.1.2.2.1.1
      rw [hru8, show H12 ru 12 = k by rw [e12, e3_up_self]]
      unfold wR_readAnswer_94
      have hbr := a_bnd_rg hb
      rw [o7] at hbr
      have nf3 : fu ≠ 3 := by have := h.2.1.2.2.1; omega
      have w79 : (e3_up (e3_up (e3_up (e3_up (e3_up σc 82 (σ0 40 27) (x_sp t n ic)) 83 (σ0 40 27) 0) 81 (σ0 40 27) (x_wo t n ic)) 79 (σ0 40 27) 1) 80 (σ0 40 27) k) 79 (σ0 40 27) = 1 := by rw [e3_up_ne (ne_1 (by decide)), e3_up_self]
      have w80 : (e3_up (e3_up (e3_up (e3_up (e3_up σc 82 (σ0 40 27) (x_sp t n ic)) 83 (σ0 40 27) 0) 81 (σ0 40 27) (x_wo t n ic)) 79 (σ0 40 27) 1) 80 (σ0 40 27) k) 80 (σ0 40 27) = k := e3_up_self _ _ _ _
      have ww : ∀ a b : Int, ¬ (79 ≤ a ∧ a ≤ 85) → (e3_up (e3_up (e3_up (e3_up (e3_up σc 82 (σ0 40 27) (x_sp t n ic)) 83 (σ0 40 27) 0) 81 (σ0 40 27) (x_wo t n ic)) 79 (σ0 40 27) 1) 80 (σ0 40 27) k) a b = σc a b := fun a b h1 => by rw [e3_up_ne (fun z => h1 (by omega)), e3_up_ne (fun z => h1 (by omega)), e3_up_ne (fun z => h1 (by omega)), e3_up_ne (fun z => h1 (by omega)), e3_up_ne (fun z => h1 (by omega))]
      refine ⟨obr, brF (Int.not_lt.mpr k0) ⟨Or.inr rfl, hok _ _ H12 _ (by rw [hae, hb]) (c_tp_σ t3 (g_up (g_up (g_up (g_up (g_up (g_rf _) (by decide)) (by decide)) (by decide)) (by decide)) (by decide))) (fun a b h1 h2 => ?_) ⟨?_, Or.inr (Or.inl ⟨w79, ?_, ?_, ?_, ?_⟩)⟩ ww ?_ ?_ (Nat.lt_succ_self _)⟩⟩
      · rw [e3_up_ne (fun z => h1 ⟨z.1, by omega, by omega⟩), e3_up_ne (fun z => h1 ⟨z.1, by omega, by omega⟩)]
      · rw [w79, e3_up_ne (fun z => by omega), e3_up_self]
      · rw [w80, e3_up_self]
      · rw [w80]; exact k0
      · rw [w80, ww 56 _ (by decide)]; exact hbr.2.1
      · rw [w80, ww 58 _ (by decide)]; exact hbr.2.2.2.2 rfl
      · rw [q7, c2.1 fu 7 (by simp only [List.mem_cons, List.not_mem_nil, or_false]; exact nf3)]; exact p7
      · rw [q8, c2.1 fu 8 (by simp only [List.mem_cons, List.not_mem_nil, or_false]; exact nf3)]; exact p8
    · intro H12 e12
      have hlr := h.2.1.2.1
      have b8 : c_bF fu (x_sp t n ic) H G H12 Gc := by
        rw [e12]
        exact ⟨by rw [e3_up_ne (ne_1 n14)]; exact hf.1, by rw [e3_up_ne (ne_1 n14)]; exact hf.2.1, c_F_up (c_F_f t1.2.1.1 t1.2.1.2.2.1.1 hf) h.2.1.2.2.1 hlr⟩
      have hru8 : H12 14 7 = ru := by rw [e12, e3_up_ne (ne_1 n14), hf.2.2.1 7 (by decide) (by decide)]; exact hru7
      rw [hru8, show H12 ru 12 = -1 by rw [e12, e3_up_self]]
      unfold wR_readAnswer_94
      exact ⟨obr, brT (by decide) ⟨Or.inl rfl, hfl _ H12 (by rw [hae, hb]) b8⟩⟩
  · have hae : a_answer t n ic σc = (match a_num t n ic with
        | .inl q => .inl q
        | .inr (j, x) => .inr (j, e3_up (e3_up (e3_up (e3_up σc 82 (σ0 40 27) (x_sp t n ic)) 83 (σ0 40 27) 0) 79 (σ0 40 27) 0) 80 (σ0 40 27) x)) := by
      unfold a_answer
      rw [if_neg hty, o7]
      rfl
    rw [hru, x_mn32]
    refine cR_num h (fun j x he hij b1 b2 K2 t2 c2 => ⟨obr, ?_⟩) (fun q he K2 hb => ⟨obr, ?_⟩)
    · intro H18 e18
      obtain ⟨t3, q7, q8⟩ := c_tp_R (a := ru) (j := 12) (v := x) t2 (Or.inl ⟨rfl, Or.inr (Or.inl ⟨by decide, by decide⟩)⟩)
      rw [← e18] at t3 q7 q8
      have hru8 : H18 14 7 = ru := t3.1.2.2.1.1
      rw [hru8, show H18 ru 12 = x by rw [e18, e3_up_self]]
      unfold wR_readAnswer_41
      have nf3 : fu ≠ 3 := by have := h.2.1.2.2.1; omega
      have w79 : (e3_up (e3_up (e3_up (e3_up σc 82 (σ0 40 27) (x_sp t n ic)) 83 (σ0 40 27) 0) 79 (σ0 40 27) 0) 80 (σ0 40 27) x) 79 (σ0 40 27) = 0 := by rw [e3_up_ne (ne_1 (by decide)), e3_up_self]
      refine ⟨obr, brF (by omega) ⟨Or.inr rfl, hok _ _ H18 _ (by rw [hae, he]) (c_tp_σ t3 (g_up (g_up (g_up (g_up (g_rf _) (by decide)) (by decide)) (by decide)) (by decide))) (fun a b h1 h2 => e3_up_ne (fun z => h1 ⟨z.1, by omega, by omega⟩)) ⟨?_, Or.inl ⟨w79, ?_⟩⟩ (fun a b h1 => ?_) ?_ ?_ hij⟩⟩
      · rw [w79, e3_up_ne (fun z => by omega)]; exact h11
      · rw [e3_up_self, e3_up_self]
      · rw [e3_up_ne (fun z => h1 (by omega)), e3_up_ne (fun z => h1 (by omega)), e3_up_ne (fun z => h1 (by omega)), e3_up_ne (fun z => h1 (by omega))]
      · rw [q7]; exact c2.1 fu 7 (by simp only [List.mem_cons, List.not_mem_nil, or_false]; exact nf3)
      · rw [q8]; exact c2.1 fu 8 (by simp only [List.mem_cons, List.not_mem_nil, or_false]; exact nf3)
    · intro H18 e18
      have hlr := h.2.1.2.1
      have hb2 := bF_of h hb
      have b8 : c_bF fu q H G H18 Gc := by
        rw [e18]
        exact ⟨by rw [e3_up_ne (ne_1 n14)]; exact hb2.1, by rw [e3_up_ne (ne_1 n14)]; exact hb2.2.1, c_F_up hb2.2.2 h.2.1.2.2.1 hlr⟩
      have hru8 : H18 14 7 = ru := by rw [e18, e3_up_ne (ne_1 n14), hb.2.2.2.2.2.1 7 (by decide) (by decide)]; exact hru
      rw [hru8, show H18 ru 12 = -2147483648 by rw [e18, e3_up_self]]
      unfold wR_readAnswer_41
      exact ⟨obr, brT rfl ⟨Or.inl rfl, hfl _ H18 (by rw [hae, he]) b8⟩⟩
end CAN
