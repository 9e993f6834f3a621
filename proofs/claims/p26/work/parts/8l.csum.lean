theorem c_tm_eq {σ σ2 R R2 : e3_H} {r ru k : Int} (h : c_tm σ r R ru k) (e75 : σ2 75 (4 * r + k) = σ 75 (4 * r + k)) (e76 : σ2 76 (4 * r + k) = σ 76 (4 * r + k)) (e56 : σ2 56 r = σ 56 r) (e58 : ∀ x, σ2 58 x = σ 58 x) (r3 : R2 (ru + 3) k = R (ru + 3) k) (r4 : R2 (ru + 4) k = R (ru + 4) k) : c_tm σ2 r R2 ru k := by
  unfold c_tm
  rw [e75, e76, e56, e58, r3, r4]
  exact h
theorem c_sm_eq {σ σ2 R R2 : e3_H} {r ru d : Int} (h : c_sm σ r R ru d) (e : ∀ a b : Int, (a = 75 ∨ a = 76) ∧ (b = 4 * r + 2 * d ∨ b = 4 * r + (2 * d + 1)) → σ2 a b = σ a b) (e77 : σ2 77 (2 * r + d) = σ 77 (2 * r + d)) (e56 : σ2 56 r = σ 56 r) (e58 : ∀ x, σ2 58 x = σ 58 x) (r2 : R2 (ru + 2) d = R (ru + 2) d) (r3 : ∀ a b : Int, (a = ru + 3 ∨ a = ru + 4) ∧ (b = 2 * d ∨ b = 2 * d + 1) → R2 a b = R a b) : c_sm σ2 r R2 ru d := by
  obtain ⟨h1, h2, h3⟩ := h
  refine ⟨c_tm_eq h1 (e _ _ ⟨Or.inl rfl, Or.inl rfl⟩) (e _ _ ⟨Or.inr rfl, Or.inl rfl⟩) e56 e58 (r3 _ _ ⟨Or.inl rfl, Or.inl rfl⟩) (r3 _ _ ⟨Or.inr rfl, Or.inl rfl⟩), by rw [r2, e77]; exact h2, ?_⟩
  rw [e77, e _ _ ⟨Or.inl rfl, Or.inr rfl⟩]
  rcases h3 with h3 | ⟨h3, h4⟩
  · exact Or.inl h3
  · exact Or.inr ⟨h3, c_tm_eq h4 (e _ _ ⟨Or.inl rfl, Or.inr rfl⟩) (e _ _ ⟨Or.inr rfl, Or.inr rfl⟩) e56 e58 (r3 _ _ ⟨Or.inl rfl, Or.inr rfl⟩) (r3 _ _ ⟨Or.inr rfl, Or.inr rfl⟩)⟩
def c_gd (σ : e3_H) (r : Int) (R : e3_H) (ru : Int) : Prop := R ru 7 = σ 78 r ∧ (σ 78 r = 0 ∨ ((σ 78 r = 60 ∨ σ 78 r = 61 ∨ σ 78 r = 62) ∧ c_sm σ r R ru 0 ∧ c_sm σ r R ru 1))
section CGS
variable {t : Int → Int} {n s m : Nat} {ru fu : Int} {H : e3_H} {G : e3_G} {σ0 g R0 : e3_H} {ic : Nat} {σc gc Kc : e3_H} {Gc : e3_G} {l : List Int} {li la : Int}
theorem cR_sum {Q : Int → e3_H → e3_G → Prop} {d : Nat} {ti si : Int} (hd : d < 2) (hti : ti = 4 * σ0 40 27 + ((2 * d : Nat) : Int)) (hsi : si = 2 * σ0 40 27 + d) (h : c_tp t n s m ru fu H G σ0 g R0 ic σc gc Kc Gc l li la) (h0 : R0 (ru + 2) d = 0)
    (hok : ∀ j σ2 K2 R2, a_sum t n ti si ic σc = .inr (j, σ2) → c_tp t n s m ru fu H G σ0 g R2 j σ2 gc K2 Gc l li la → (∀ a b : Int, ¬ (a = ru + 2 ∧ b = d) → ¬ ((a = ru + 3 ∨ a = ru + 4) ∧ (b = 2 * d ∨ b = 2 * d + 1)) → R2 a b = R0 a b) → c_sm σ2 (σ0 40 27) R2 ru d → (∀ a b : Int, ¬ ((a = 75 ∨ a = 76) ∧ (b = 4 * σ0 40 27 + 2 * d ∨ b = 4 * σ0 40 27 + (2 * d + 1))) → ¬ (a = 77 ∧ b = 2 * σ0 40 27 + d) → σ2 a b = σc a b) → K2 fu 7 = Kc fu 7 → K2 fu 8 = Kc fu 8 → ic < j → Q 1 K2 Gc)
    (hfl : ∀ q K2, a_sum t n ti si ic σc = .inl q → c_bF fu q H G K2 Gc → Q 0 K2 Gc) : wR_readSum Q d Kc Gc := by
  have ed : ((2 * d : Nat) : Int) = 2 * (d : Int) := by omega
  subst hti hsi
  unfold wR_readSum
  rw [e3_w32_id (x := 2 * (d : Int)) (by omega) (by omega), ← ed]
  refine cR_term (k := 2 * d) (by omega) h (fun j1 σ1 K1 R1 he t1 hr1 ht1 hs1 f7 f8 hij => brF (by decide) ?_) (fun q K2 he hb => brT rfl (hfl q K2 (by unfold a_sum; rw [he]) hb))
  have o2d := t1.2.1.2.2.2
  have s1 := o2d.1
  have s4 : K1 ru 8 = ru + 2 := o2d.2.2.2.1.1
  have s4b := o2d.2.2.2.1.2
  have obr := ga_ob (c := 9) o2d.2.1
  have hru1 : K1 14 7 = ru := t1.1.2.2.1.1
  obtain ⟨n7, n8, n9⟩ := c_now t1.1.1
  have hsum : a_sum t n (4 * σ0 40 27 + ((2 * d : Nat) : Int)) (2 * σ0 40 27 + d) ic σc = (if a_isop (x_ty t n j1) then a_term t n (4 * σ0 40 27 + ((2 * d : Nat) : Int) + 1) (j1 + 1) (e3_up (e3_up (e3_up σ1 75 (4 * σ0 40 27 + ((2 * d : Nat) : Int) + 1) 0) 77 (2 * σ0 40 27 + d) 0) 77 (2 * σ0 40 27 + d) (x_ty t n j1)) else .inr (j1, e3_up (e3_up σ1 75 (4 * σ0 40 27 + ((2 * d : Nat) : Int) + 1) 0) 77 (2 * σ0 40 27 + d) 0)) := by
    unfold a_sum
    rw [he]
  rw [hsum] at hok hfl
  have e4 : 4 * σ0 40 27 + ((2 * d : Nat) : Int) + 1 = 4 * σ0 40 27 + ((2 * d + 1 : Nat) : Int) := by omega
  rw [e4] at hok hfl
  have hr1' : ∀ a b : Int, ¬ ((a = ru + 3 ∨ a = ru + 4) ∧ b = 2 * d) → R1 a b = R0 a b := fun a b hn => hr1 a b (by rw [ed]; exact hn)
  have r2 : R1 (ru + 2) d = 0 := by rw [hr1' (ru + 2) d (fun z => by omega)]; exact h0
  have op : a_isop (x_ty t n j1) → wR_readSum_52 Q d (K1 3 7) K1 Gc := by
    intro hop
    rw [if_pos hop] at hok hfl
    unfold wR_readSum_52
    rw [hru1, s4, n7]
    refine ⟨obr, ga_oa s4b (by omega) (by omega), ?_⟩
    intro H1 e1
    obtain ⟨t2, f72, f82⟩ := c_tp_R (a := ru + 2) (j := d) (v := x_ty t n j1) t1 (Or.inr ⟨by omega, by omega⟩)
    rw [← e1] at t2 f72 f82
    have hnf : x_nf t n j1 := by
      rcases hop with h1 | h1 | h1 | h1 | h1 <;> exact ⟨by omega, by omega⟩
    refine cT_stp t2.1.1 hnf (fun K3 a3 b3 => ?_)
    have t3 := c_tp_σ (σ2 := e3_up (e3_up (e3_up σ1 75 (4 * σ0 40 27 + ((2 * d + 1 : Nat) : Int)) 0) 77 (2 * σ0 40 27 + d) 0) 77 (2 * σ0 40 27 + d) (x_ty t n j1)) (c_tp_s t2 a3 b3) (g_up (g_up (g_up (g_rf _) (by decide)) (by decide)) (by decide))
    have nf3 : fu ≠ 3 := by have := t1.2.1.2.2.1; omega
    have g7 : K3 fu 7 = Kc fu 7 := by rw [b3.1 fu 7 (by simp only [List.mem_cons, List.not_mem_nil, or_false]; exact nf3), f72]; exact f7
    have g8 : K3 fu 8 = Kc fu 8 := by rw [b3.1 fu 8 (by simp only [List.mem_cons, List.not_mem_nil, or_false]; exact nf3), f82]; exact f8
    rw [show e3_w32 (e3_w32 (2 * (d : Int)) + 1) = ((2 * d + 1 : Nat) : Int) by rw [e3_w32_id (x := 2 * (d : Int)) (by omega) (by omega), e3_w32_id (by omega) (by omega)]; omega]
    refine cR_term (k := 2 * d + 1) (by omega) t3 (fun j2 σ2 K4 R2 he2 t4 hr2 ht2 hs2 k7 k8 hij2 => ⟨Or.inr rfl, hok j2 σ2 K4 R2 he2 t4 (fun a b hn hn2 => ?_) ⟨c_tm_eq ht1 ?_ ?_ ?_ (fun x => ?_) ?_ ?_, ?_, Or.inr ⟨?_, ?_⟩⟩ (fun a b hn hn2 => ?_) (by rw [k7]; exact g7) (by rw [k8]; exact g8) (by omega)⟩) (fun q K4 he2 hb => ⟨Or.inl rfl, hfl q K4 he2 hb⟩)
    · rw [hr2 a b (fun z => hn2 ⟨z.1, Or.inr (by omega)⟩), e3_up_ne hn, hr1' a b (fun z => hn2 ⟨z.1, Or.inl z.2⟩)]
    · rw [hs2 _ _ (fun z => by omega), e3_up_ne (ne_1 (by decide)), e3_up_ne (ne_1 (by decide)), e3_up_ne (fun z => by omega)]
    · rw [hs2 _ _ (fun z => by omega), e3_up_ne (ne_1 (by decide)), e3_up_ne (ne_1 (by decide)), e3_up_ne (ne_1 (by decide))]
    · rw [hs2 _ _ (fun z => by omega), e3_up_ne (ne_1 (by decide)), e3_up_ne (ne_1 (by decide)), e3_up_ne (ne_1 (by decide))]
    · rw [hs2 _ _ (fun z => by omega), e3_up_ne (ne_1 (by decide)), e3_up_ne (ne_1 (by decide)), e3_up_ne (ne_1 (by decide))]
    · rw [hr2 _ _ (fun z => by omega), e3_up_ne (fun z => by omega)]
    · rw [hr2 _ _ (fun z => by omega), e3_up_ne (fun z => by omega)]
    · rw [hr2 _ _ (fun z => by omega), e3_up_self, hs2 _ _ (fun z => by omega), e3_up_self]
    · rw [hs2 _ _ (fun z => by omega), e3_up_self]; exact hop
    · rw [show (2 * (d : Int) + 1) = ((2 * d + 1 : Nat) : Int) by omega]; exact ht2
    · rw [hs2 a b (fun z => hn ⟨z.1, Or.inr (by omega)⟩), e3_up_ne hn2, e3_up_ne hn2, e3_up_ne (fun z => hn ⟨Or.inl z.1, Or.inr (by omega)⟩), hs1 a b (fun z => hn ⟨z.1, Or.inl (by omega)⟩)]
  have no : ¬ a_isop (x_ty t n j1) → Q 1 K1 Gc := by
    intro hop
    rw [if_neg hop] at hok
    refine hok j1 _ K1 R1 rfl (c_tp_σ t1 (g_up (g_up (g_rf _) (by decide)) (by decide))) (fun a b hn hn2 => hr1' a b (fun z => hn2 ⟨z.1, Or.inl z.2⟩)) ⟨c_tm_eq ht1 ?_ ?_ ?_ (fun x => ?_) rfl rfl, ?_, Or.inl ⟨?_, ?_⟩⟩ (fun a b hn hn2 => ?_) f7 f8 hij
    · rw [e3_up_ne (ne_1 (by decide)), e3_up_ne (fun z => by omega)]
    · rw [e3_up_ne (ne_1 (by decide)), e3_up_ne (ne_1 (by decide))]
    · rw [e3_up_ne (ne_1 (by decide)), e3_up_ne (ne_1 (by decide))]
    · rw [e3_up_ne (ne_1 (by decide)), e3_up_ne (ne_1 (by decide))]
    · rw [r2, e3_up_self]
    · rw [e3_up_self]
    · rw [e3_up_ne (ne_1 (by decide)), show 4 * σ0 40 27 + (2 * (d : Int) + 1) = 4 * σ0 40 27 + ((2 * d + 1 : Nat) : Int) by omega, e3_up_self]
    · rw [e3_up_ne hn2, e3_up_ne (fun z => hn ⟨Or.inl z.1, Or.inr (by omega)⟩), hs1 a b (fun z => hn ⟨z.1, Or.inl (by omega)⟩)]
  have n7' := n7
  refine ⟨fun h1 => op (by rw [n7'] at h1; exact Or.inl h1), fun h1 => ⟨fun h2 => op (by rw [n7'] at h2; exact Or.inr (Or.inl h2)), fun h2 => ⟨fun h3 => op (by rw [n7'] at h3; exact Or.inr (Or.inr (Or.inl h3))), fun h3 => ⟨fun h4 => op (by rw [n7'] at h4; exact Or.inr (Or.inr (Or.inr (Or.inl h4)))), fun h4 => ⟨fun h5 => op (by rw [n7'] at h5; exact Or.inr (Or.inr (Or.inr (Or.inr h5)))), fun h5 => no ?_⟩⟩⟩⟩⟩
  rw [n7'] at h1 h2 h3 h4 h5
  intro z
  rcases z with z | z | z | z | z
  · exact h1 z
  · exact h2 z
  · exact h3 z
  · exact h4 z
  · exact h5 z
end CGS
