section CGU
variable {t : Int → Int} {n s m : Nat} {ru fu : Int} {H : e3_H} {G : e3_G} {σ0 g R0 : e3_H} {ic : Nat} {σc gc Kc : e3_H} {Gc : e3_G} {l : List Int} {li la : Int}
theorem c_tp_step {Q : e3_H → e3_G → Prop} (h : c_tp t n s m ru fu H G σ0 g R0 ic σc gc Kc Gc l li la) (hnf : x_nf t n ic) (hQ : ∀ K2, c_tp t n s m ru fu H G σ0 g R0 (ic + 1) σc gc K2 Gc l li la → K2 fu 7 = Kc fu 7 → K2 fu 8 = Kc fu 8 → (∀ a k : Int, a ≠ 3 → K2 a k = Kc a k) → Q K2 Gc) : wT_step Q Kc Gc := by
  have nf3 : fu ≠ 3 := by have := h.2.1.2.2.1; omega
  refine cT_stp h.1.1 hnf (fun K2 a b => ?_)
  have at2 : ∀ a k : Int, a ≠ 3 → K2 a k = Kc a k := fun a k ha => b.1 a k (by simp only [List.mem_cons, List.not_mem_nil, or_false]; exact ha)
  exact hQ K2 (c_tp_s h a b) (at2 _ _ nf3) (at2 _ _ nf3) at2
theorem c_tp_fail {Q : Int → e3_H → e3_G → Prop} {c : Int} (h : c_tp t n s m ru fu H G σ0 g R0 ic σc gc Kc Gc l li la) (hc : c ≠ 0) (hQ : ∀ K2, c_bF fu (x_sp t n ic) H G K2 Gc → Q 0 K2 Gc) : wR_failHere Q c Kc Gc := cR_failHere h.1.1 hc (fun K2 hf => hQ K2 ⟨hf.1, hf.2.1, c_F_f h.2.1.1 h.2.1.2.2.1.1 hf⟩)
theorem cR_guard {Q : Int → e3_H → e3_G → Prop} (h : c_tp t n s m ru fu H G σ0 g R0 ic σc gc Kc Gc l li la) (hty : x_ty t n ic = 273) (hz0 : R0 (ru + 2) 0 = 0) (hz1 : R0 (ru + 2) 1 = 0)
    (hok : ∀ j σ2 K2 R2, a_guard t n ic σc = .inr (j, σ2) → c_tp t n s m ru fu H G σ0 g R2 j σ2 gc K2 Gc l li la → (∀ a b : Int, ¬ (a = ru ∧ b = 7) → ¬ (ru + 2 ≤ a ∧ a ≤ ru + 4) → R2 a b = R0 a b) → c_gd σ2 (σ0 40 27) R2 ru → (∀ a b : Int, ¬ (75 ≤ a ∧ a ≤ 78) → σ2 a b = σc a b) → K2 fu 7 = Kc fu 7 → K2 fu 8 = Kc fu 8 → ic < j → Q 1 K2 Gc)
    (hfl : ∀ q K2, a_guard t n ic σc = .inl q → c_bF fu q H G K2 Gc → Q 0 K2 Gc) : wR_readGuard Q Kc Gc := by
  have o7 := h.2.2.1.2.2.2.2.1
  have hag : a_guard t n ic σc = (match a_sum t n (4 * σ0 40 27) (2 * σ0 40 27) (ic + 1) (e3_up σc 78 (σ0 40 27) 0) with
    | .inl q => .inl q
    | .inr (j, σ2) => if x_ty t n j = 60 ∨ x_ty t n j = 61 ∨ x_ty t n j = 62 then a_sum t n (4 * σ0 40 27 + 2) (2 * σ0 40 27 + 1) (j + 1) (e3_up σ2 78 (σ0 40 27) (x_ty t n j)) else .inl (x_sp t n j : Int)) := by
    unfold a_guard
    rw [if_pos hty, o7]
    rfl
  rw [hag] at hok hfl
  unfold wR_readGuard
  refine c_tp_step h ⟨by omega, by omega⟩ (fun K1 t1 f7 f8 _ => ?_)
  have t1' := c_tp_σ (σ2 := e3_up σc 78 (σ0 40 27) 0) t1 (g_up (g_rf _) (by decide))
  refine cR_sum (d := 0) (ti := 4 * σ0 40 27) (si := 2 * σ0 40 27) (by omega) (by omega) (by omega) t1' hz0 (fun j σ2 K2 R2 he t2 hr2 hsm hs2 k7 k8 hij => brF (by decide) ?_) (fun q K2 he hb => brT rfl (hfl q K2 (by rw [he]) hb))
  rw [he] at hok hfl
  simp only at hok hfl
  obtain ⟨n7, n8, n9⟩ := c_now t2.1.1
  have hru : K2 14 7 = ru := t2.1.2.2.1.1
  have s1 := t2.2.1.2.2.2.1
  have obr := ga_ob (c := 9) t2.2.1.2.2.2.2.1
  have go : (x_ty t n j = 60 ∨ x_ty t n j = 61 ∨ x_ty t n j = 62) → wR_readGuard_49 Q (K2 3 7) K2 Gc := by
    intro hc
    rw [if_pos hc] at hok hfl
    unfold wR_readGuard_49
    rw [hru, n7]
    refine ⟨obr, ?_⟩
    intro H1 e1
    obtain ⟨t3, f73, f83⟩ := c_tp_R (a := ru) (j := 7) (v := x_ty t n j) t2 (Or.inl ⟨rfl, Or.inl rfl⟩)
    rw [← e1] at t3 f73 f83
    refine c_tp_step t3 (by rcases hc with h1 | h1 | h1 <;> exact ⟨by omega, by omega⟩) (fun K3 t4 f74 f84 _ => ?_)
    have t4' := c_tp_σ (σ2 := e3_up σ2 78 (σ0 40 27) (x_ty t n j)) t4 (g_up (g_rf _) (by decide))
    have hr2' : ∀ a b : Int, ¬ (a = ru + 2 ∧ b = 0) → ¬ ((a = ru + 3 ∨ a = ru + 4) ∧ (b = 0 ∨ b = 1)) → R2 a b = R0 a b := fun a b h1 h2 => hr2 a b h1 (by exact h2)
    refine cR_sum (d := 1) (ti := 4 * σ0 40 27 + 2) (si := 2 * σ0 40 27 + 1) (by omega) (by omega) (by omega) t4' ?_ (fun j2 σ3 K4 R3 he2 t5 hr3 hsm3 hs3 k75 k85 hij2 => ⟨Or.inr rfl, ?_⟩) (fun q K4 he2 hb => ⟨Or.inl rfl, hfl q K4 he2 hb⟩)
    · rw [e3_up_ne (fun z => by omega), hr2' _ _ (fun z => by omega) (fun z => by omega)]; exact hz1
    · have e78 : σ3 78 (σ0 40 27) = x_ty t n j := by rw [hs3 _ _ (fun z => by omega) (fun z => by omega), e3_up_self]
      have r3' : ∀ a b : Int, ¬ (a = ru + 2 ∧ b = 1) → ¬ ((a = ru + 3 ∨ a = ru + 4) ∧ (b = 2 ∨ b = 3)) → R3 a b = (e3_up R2 ru 7 (x_ty t n j)) a b := fun a b h1 h2 => hr3 a b h1 (by exact h2)
      refine hok j2 σ3 K4 R3 he2 t5 (fun a b hn1 hn2 => ?_) ⟨?_, Or.inr ⟨by rw [e78]; exact hc, c_sm_eq hsm (fun a b hab => ?_) ?_ ?_ (fun x => ?_) ?_ (fun a b hab => ?_), hsm3⟩⟩ (fun a b hn => ?_) ?_ ?_ (by omega)
      · rw [r3' a b (fun z => hn2 (by omega)) (fun z => hn2 (by omega)), e3_up_ne hn1, hr2' a b (fun z => hn2 (by omega)) (fun z => hn2 (by omega))]
      · rw [r3' ru 7 (fun z => by omega) (fun z => by omega), e3_up_self, e78]
      · rw [hs3 a b (fun z => by omega) (fun z => by omega), e3_up_ne (fun z => by omega)]
      · rw [hs3 _ _ (fun z => by omega) (fun z => by omega), e3_up_ne (fun z => by omega)]
      · rw [hs3 _ _ (fun z => by omega) (fun z => by omega), e3_up_ne (fun z => by omega)]
      · rw [hs3 _ _ (fun z => by omega) (fun z => by omega), e3_up_ne (fun z => by omega)]
      · rw [r3' _ _ (fun z => by omega) (fun z => by omega), e3_up_ne (fun z => by omega)]
      · rw [r3' a b (fun z => by omega) (fun z => by omega), e3_up_ne (fun z => by omega)]
      · rw [hs3 a b (fun z => hn (by omega)) (fun z => hn (by omega)), e3_up_ne (fun z => hn (by omega)), hs2 a b (fun z => hn (by omega)) (fun z => hn (by omega)), e3_up_ne (fun z => hn (by omega))]
      · rw [k75, f74, f73, k7]; exact f7
      · rw [k85, f84, f83, k8]; exact f8
  have n7' := n7
  refine ⟨fun h1 => go (by rw [n7'] at h1; exact Or.inl h1), fun h1 => ⟨fun h2 => go (by rw [n7'] at h2; exact Or.inr (Or.inl h2)), fun h2 => ⟨fun h3 => go (by rw [n7'] at h3; exact Or.inr (Or.inr h3)), fun h3 => ?_⟩⟩⟩
  rw [n7'] at h1 h2 h3
  refine c_tp_fail t2 (by decide) (fun K3 hb => ⟨Or.inl rfl, hfl _ K3 (by rw [if_neg (fun z => by omega)]) hb⟩)
end CGU
