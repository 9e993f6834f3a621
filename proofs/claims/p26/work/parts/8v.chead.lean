section CHD
variable {t : Int → Int} {n s m : Nat}
/-- the class's list of FUNCTIONS -/
def c_fl (nf : Nat) (σ H : e3_H) (G : e3_G) : Prop := H 14 3 = nf ∧ nf ≤ 12 ∧ ∀ f : Nat, f < nf → (139 ≤ H 15 f ∧ g_at G (H 15 f) (108, 11)) ∧ H (H 15 f) 0 = σ 67 f
theorem cR_findFunction {Q : Int → e3_H → e3_G → Prop} {nf : Nat} {v : Int} {σ H : e3_H} {G : e3_G} (h : c_fl nf σ H G) (hd : a_ds (σ 67) nf) (hQ : Q (if a_fd (σ 67) v nf < 0 then -1 else a_fd (σ 67) v nf) H G) : wR_findFunction Q v H G := by
  obtain ⟨h1, h2, h3⟩ := h
  have key : ∀ (f j : Nat), j + f = nf → (∀ l : Nat, l < j → σ 67 l ≠ v) → wR_findFunction_2 Q (f + 1) v j H G := by
    intro f
    induction f with
    | zero =>
      intro j hj hne
      refine brF (by omega) ?_
      have e : a_fd (σ 67) v nf = -4 := by
        rcases a_fd_rg (σ 67) v nf with he | ⟨x1, x2, x3⟩
        · exact he
        · exact absurd (by rw [Int.toNat_of_nonneg x1]; exact x3) (hne (a_fd (σ 67) v nf).toNat (by omega))
      rw [e] at hQ
      exact hQ
    | succ f ih =>
      intro j hj hne
      obtain ⟨⟨a1, a2⟩, a3⟩ := h3 j (by omega)
      refine brT (by omega) ⟨by omega, ga_ob (c := 8) a2, ?_⟩
      rw [a3]
      refine ⟨fun hv => ?_, fun hv => ?_⟩
      · have e : a_fd (σ 67) v nf = j := a_fd_one hd (by omega) hv
        rw [e, if_neg (by omega)] at hQ
        exact hQ
      · rw [w_p1 (by omega)]
        exact ih (j + 1) (by omega) (fun l hl => by
          by_cases hlj : l = j
          · subst hlj; exact hv
          · exact hne l (by omega))
  exact ⟨nf + 1, key nf 0 (by omega) (fun l hl => by omega)⟩
/-- what reading a FUNCTION may change -/
def c_Z (nf : Nat) (H : e3_H) (G : e3_G) (K : e3_H) (G2 : e3_G) : Prop := (∃ E, G2 = G ++ E) ∧ (∀ a k : Int, a < G.length → a ≠ 3 → a ≠ 14 → a ≠ 15 → K a k = H a k) ∧ (∀ k : Int, k < 6 → K 3 k = H 3 k) ∧ (∀ k : Int, k < 3 ∨ 7 < k → K 14 k = H 14 k) ∧ ∀ k : Int, k ≠ nf → K 15 k = H 15 k
def c_bZ (nf : Nat) (q : Int) (H : e3_H) (G : e3_G) (K : e3_H) (G2 : e3_G) : Prop := K 14 4 ≠ 0 ∧ K 14 5 = q ∧ c_Z nf H G K G2
theorem c_Z_f {nf : Nat} {q : Int} {H K K2 : e3_H} {G G2 : e3_G} (h : c_Z nf H G K G2) (h2 : c_flt q K K2) : c_bZ nf q H G K2 G2 := by
  obtain ⟨a1, a2, a3, a4, a5⟩ := h
  obtain ⟨f1, f2, f3, f4⟩ := h2
  have at2 : ∀ a k : Int, a ≠ 14 → K2 a k = K a k := fun a k ha => f4 a k (by simp only [List.mem_cons, List.not_mem_nil, or_false]; exact ha)
  exact ⟨f1, f2, a1, fun a k z1 z2 z3 z4 => by rw [at2 _ _ z3]; exact a2 a k z1 z2 z3 z4, fun k hk => by rw [at2 _ _ (by decide)]; exact a3 k hk, fun k hk => by rw [f3 k (by omega) (by omega)]; exact a4 k hk, fun k hk => by rw [at2 _ _ (by decide)]; exact a5 k hk⟩
theorem c_Z_C {nf : Nat} {H K K2 : e3_H} {G G2 : e3_G} (h : c_Z nf H G K G2) (h2 : x_C K K2) : c_Z nf H G K2 G2 := by
  obtain ⟨a1, a2, a3, a4, a5⟩ := h
  have at2 : ∀ a k : Int, a ≠ 3 → K2 a k = K a k := fun a k ha => h2.1 a k (by simp only [List.mem_cons, List.not_mem_nil, or_false]; exact ha)
  exact ⟨a1, fun a k z1 z2 z3 z4 => by rw [at2 _ _ z2]; exact a2 a k z1 z2 z3 z4, fun k hk => by rw [h2.2 k hk]; exact a3 k hk, fun k hk => by rw [at2 _ _ (by decide)]; exact a4 k hk, fun k hk => by rw [at2 _ _ (by decide)]; exact a5 k hk⟩
theorem c_Z_rf (nf : Nat) (H : e3_H) (G : e3_G) : c_Z nf H G H G := ⟨⟨[], by rw [List.append_nil]⟩, fun _ _ _ _ _ _ => rfl, fun _ _ => rfl, fun _ _ => rfl, fun _ _ => rfl⟩
theorem c_Z_B {nf : Nat} {H K K2 : e3_H} {G G2 G3 : e3_G} (h : c_Z nf H G K G2) (h139 : 139 ≤ (G.length : Int)) (h2 : c_B G.length K G2 K2 G3) : c_Z nf H G K2 G3 := by
  obtain ⟨⟨E1, x1⟩, a2, a3, a4, a5⟩ := h
  obtain ⟨⟨E2, y1⟩, b2, b3, b4⟩ := h2
  exact ⟨⟨E1 ++ E2, by rw [y1, x1, List.append_assoc]⟩, fun a k z1 z2 z3 z4 => (b2 a k z1 z2 z3).trans (a2 a k z1 z2 z3 z4), fun k hk => (b3 k hk).trans (a3 k hk), fun k hk => (b4 k (by omega) (by omega) (by omega)).trans (a4 k hk), fun k hk => (b2 15 k (by omega) (by decide) (by decide)).trans (a5 k hk)⟩
/-- a FUNCTION, from the word sort on -/
theorem cR_fun {Q : Int → e3_H → e3_G → Prop} {Qz : e3_H → e3_G → Prop} {ic nf : Nat} {σ g H : e3_H} {G : e3_G} (htk : c_tk t n s ic H) (hnf : x_nf t n ic) (hkd : c_kd σ m H) (hF : F_inv σ m nf) (h16 : σ 40 16 ≤ (ic : Int)) (hfl0 : c_fl nf σ H G) (h139 : 139 ≤ (G.length : Int))
    (hok : ∀ j σ2 K2 G2 g2, a_fun t n (ic + 1) σ = .inr (j, σ2) → c_tk t n s j K2 → c_fs m G.length nf σ2 g2 K2 G2 → c_Z nf H G K2 G2 → K2 14 3 = (nf : Int) + 1 → K2 15 nf = G.length → (∀ a k : Int, 0 ≤ a → a ≤ 2 → k < σ 40 16 → g2 a k = g a k) → gz G2 ≤ gz G + 400 * ((j : Int) - ic) → (2 * K2 G.length 7 ≤ 1 + ((j : Int) - ic) ∧ ic + 6 ≤ j) → Q 1 K2 G2)
    (hfl : ∀ q K2 G2, a_fun t n (ic + 1) σ = .inl q → c_bZ nf q H G K2 G2 → gz G2 ≤ gz G + 1243 + 200 * ((s : Int) - ic + 1) → Q 0 K2 G2 ∧ Qz K2 G2) : wR_readHead (fun x3 H1 G2 => (((x3 : Int) = 0 → Qz H1 G2) ∧ (¬ ((x3 : Int) = 0) → (wR_readRules Q H1 G2)))) H G := by
  obtain ⟨i1, i2, i3, i4, i5⟩ := id hF
  have his := c_lt htk hnf
  have ea : a_nf σ = nf := F_nf hF
  unfold wR_readHead wR_readHead_130 wR_readHead_131
  refine cT_stp htk hnf (fun K1 a1 b1 => ?_)
  have at1 : ∀ a k : Int, a ≠ 3 → K1 a k = H a k := fun a k ha => b1.1 a k (by simp only [List.mem_cons, List.not_mem_nil, or_false]; exact ha)
  have Z1 := c_Z_C (c_Z_rf nf H G) b1
  obtain ⟨n7, n8, n9⟩ := c_now a1
  have bad : ∀ c : Int, c ≠ 0 → a_fun t n (ic + 1) σ = .inl (x_sp t n (ic + 1)) → wR_failHere (fun x H4 G5 => ((x : Int) = 0 ∨ x = 1) ∧ (((x : Int) = 0 → Qz H4 G5) ∧ (¬ ((x : Int) = 0) → (wR_readRules Q H4 G5)))) c K1 G := fun c hc he => cR_failHere a1 hc (fun K2 hf2 => ⟨Or.inl rfl, brT rfl (hfl _ K2 G he (c_Z_f Z1 hf2) (by omega)).2⟩)
  have fl1 : c_fl nf σ K1 G := by
    obtain ⟨z1, z2, z3⟩ := hfl0
    refine ⟨by rw [at1 _ _ (by decide)]; exact z1, z2, fun f hf => ?_⟩
    rw [at1 15 _ (by decide), at1 _ _ (by have := (z3 f hf).1.1; omega)]
    exact z3 f hf
  rw [n7, n9]
  refine ⟨fun hty => ?_, fun hty => bad 2 (by decide) (by unfold a_fun; rw [if_pos hty])⟩
  have hu : a_fun t n (ic + 1) σ = (if a_fd (σ 67) (x_wo t n (ic + 1)) nf ≠ -4 then .inl (x_sp t n (ic + 1) : Int)
        else if σ 40 41 = 12 then .inl (x_sp t n (ic + 1) : Int)
        else if x_ty t n (ic + 1 + 1) ≠ 40 then .inl (x_sp t n (ic + 1 + 1) : Int)
        else a_fun2 t n (σ 40 41) (a_cls t n (σ 40 41) 4 (ic + 1 + 2) (a_fnew σ (σ 40 41) (x_wo t n (ic + 1))))) := by
    unfold a_fun
    rw [if_neg (fun z => z hty), ea]
  refine cR_findFunction fl1 i3 ?_
  have hfd := a_fd_rg (σ 67) (x_wo t n (ic + 1)) nf
  by_cases hz : a_fd (σ 67) (x_wo t n (ic + 1)) nf < 0
  · rw [if_pos hz]
    have e4 : a_fd (σ 67) (x_wo t n (ic + 1)) nf = -4 := by omega
    rw [if_neg (fun z => z e4), i1] at hu
    refine brT (by decide) ?_
    rw [fl1.1]
    refine ⟨fun h12 => ?_, fun h12 => bad 9 (by decide) (by rw [hu, if_pos (by omega)])⟩
    rw [if_neg (by omega)] at hu
    intro H7 G8 e7 e8
    subst e7 e8
    rw [nw_ne (show (3 : Int) ≠ G.length by omega), n9]
    refine ⟨by omega, cF_init h139 (fun K k1 ⟨f0, f1, f2, f3, f4, f7, f8, f9⟩ hfk => ?_)⟩
    intro H12 e12
    have u143 : H12 14 3 = (nf : Int) := by rw [e12, e3_up_ne (fun z => by omega), k1 14 3 (by omega)]; exact fl1.1
    have u146 : H12 14 6 = G.length := by rw [e12, e3_up_self]
    rw [u143, u146]
    have gfu : g_at (G ++ g_fu) (G.length : Int) (108, 11) := by
      have := ga_mid (G := G) (E := g_fu) (k := 0) rfl
      rw [show (G.length : Int) + ((0 : Nat) : Int) = G.length by omega] at this
      exact this
    refine ⟨by omega, Or.inr (ga_ob (c := 8) gfu), ?_⟩
    intro H13 e13
    have u133 : H13 14 3 = (nf : Int) := by rw [e13, e3_up_ne (ne_1 (by decide))]; exact u143
    rw [u133, w_p1 (by omega)]
    intro H16 e16
    have low : ∀ a k : Int, a < G.length → a ≠ 14 → a ≠ 15 → H16 a k = K1 a k := fun a k z1 z2 z3 => by rw [e16, e3_up_ne (ne_1 z2), e13, e3_up_ne (ne_1 z3), e12, e3_up_ne (ne_1 z2)]; exact k1 a k z1
    have hi : ∀ a k : Int, (G.length : Int) ≤ a → H16 a k = K a k := fun a k z1 => by rw [e16, e3_up_ne (ne_1 (by omega)), e13, e3_up_ne (ne_1 (by omega)), e12, e3_up_ne (ne_1 (by omega))]
    have w143 : H16 14 3 = (nf : Int) + 1 := by rw [e16, e3_up_self]; omega
    have w146 : H16 14 6 = G.length := by rw [e16, e3_up_ne (fun z => by omega), e13, e3_up_ne (ne_1 (by decide))]; exact u146
    have w15 : H16 15 nf = G.length := by rw [e16, e3_up_ne (ne_1 (by decide)), e13, e3_up_self]
    have Z16 : c_Z nf H G H16 (G ++ g_fu) := by
      refine ⟨⟨g_fu, rfl⟩, fun a k z1 z2 z3 z4 => by rw [low a k z1 z3 z4]; exact at1 a k z2, fun k hk => by rw [low 3 k (by omega) (by decide) (by decide)]; exact b1.2 k hk, fun k hk => ?_, fun k hk => ?_⟩
      · rw [e16, e3_up_ne (fun z => by omega), e13, e3_up_ne (ne_1 (by decide)), e12, e3_up_ne (fun z => by omega), k1 14 k (by omega)]; exact at1 14 k (by decide)
      · rw [e16, e3_up_ne (ne_1 (by decide)), e13, e3_up_ne (fun z => hk z.2), e12, e3_up_ne (ne_1 (by decide)), k1 15 k (by omega)]; exact at1 15 k (by decide)
    have tk16 : c_tk t n s (ic + 1) H16 := c_tk_eq a1 (fun a k ha => low a k (by omega) (by omega) (by omega))
    obtain ⟨q1, q2, q3, q4, q5, q6, q7, q8⟩ := F_new (v := x_wo t n (ic + 1)) i1 i5 i4
    have row : ∀ a k : Int, a < 46 → a ≠ 40 → a_fnew σ nf (x_wo t n (ic + 1)) a k = σ a k := fun a k h1 h2 => by unfold a_fnew; rw [e3_up_ne (ne_1 (by omega)), e3_up_ne (ne_1 (by omega)), e3_up_ne (ne_1 (by omega)), e3_up_ne (ne_1 h2)]
    have fs16 : c_fs m G.length nf (a_fnew σ nf (x_wo t n (ic + 1))) g H16 (G ++ g_fu) := by
      have fk16 : c_fk G.length H16 (G ++ g_fu) := by
        have := c_fk_eq (E := []) (K := H16) hfk (hi _ _ (Int.le_refl _)) (hi _ _ (Int.le_refl _)) (hi _ _ (Int.le_refl _)) (fun k => hi _ _ (by omega))
        rw [List.append_nil] at this
        exact this
      have hf8 : H16 G.length 8 = (G.length : Int) + 4 := by rw [hi _ _ (Int.le_refl _)]; exact f8
      have hf9 : H16 G.length 9 = (G.length : Int) + 5 := by rw [hi _ _ (Int.le_refl _)]; exact f9
      have hf7 : H16 G.length 7 = 0 := by rw [hi _ _ (Int.le_refl _)]; exact f7
      have hf2 : H16 G.length 2 = (G.length : Int) + 1 := by rw [hi _ _ (Int.le_refl _)]; exact f2
      have hf4 : H16 G.length 4 = (G.length : Int) + 2 := by rw [hi _ _ (Int.le_refl _)]; exact f4
      refine ⟨?_, ⟨h139, gfu, 16, by rw [hf8]; exact ⟨by omega, ga_mid (G := G) (E := g_fu) (k := 4) rfl⟩, by rw [hf9]; exact ⟨by omega, ga_mid (G := G) (E := g_fu) (k := 5) rfl⟩, by rw [hf8, hf9]; omega, by omega, by rw [hf7]; omega, fun p hp => by rw [hf7] at hp; omega, fun p q hp => by rw [hf7] at hp; omega⟩, w146, ⟨?_, ?_, ?_, fun c hc => ?_⟩, ⟨?_, ?_, ?_⟩, ⟨by rw [hf2]; omega, by rw [hf4]; omega, by rw [hf8]; omega, by rw [hf9]; omega⟩, fun k hk => ?_, fk16⟩
      · have := ckd_eq (K2 := H16) hkd (fun a k ha => by rw [low a k (by omega) (by omega) (by omega)]; exact at1 a k (by omega))
        unfold c_kd at this ⊢
        rw [funext (row 42 · (by decide) (by decide)), funext (row 43 · (by decide) (by decide)), funext (row 44 · (by decide) (by decide)), funext (row 45 · (by decide) (by decide))]
        exact this
      · rw [hi _ _ (Int.le_refl _), f1, q2]; rfl
      · rw [hf2]; exact ⟨by omega, ga_mid (G := G) (E := g_fu) (k := 1) rfl⟩
      · rw [q2]; decide
      · rw [q2] at hc; exact absurd hc (by simp)
      · rw [hi _ _ (Int.le_refl _), f0, q8]; simp only [if_true]
      · rw [hi _ _ (Int.le_refl _), f3, q3]
      · rw [hf4]; exact ⟨by omega, ga_mid (G := G) (E := g_fu) (k := 2) rfl⟩
      · rw [q3] at hk; omega
    have pt16 : pot H16 (G ++ g_fu) G.length = gz G + 860 := by
      obtain ⟨_, pl, _⟩ := id fs16
      have hf8 : H16 G.length 8 = (G.length : Int) + 4 := by rw [hi _ _ (Int.le_refl _)]; exact f8
      have hf7 : H16 G.length 7 = 0 := by rw [hi _ _ (Int.le_refl _)]; exact f7
      have g4 : g_at (G ++ g_fu) ((G.length : Int) + 4) (0, 16) := ga_mid (G := G) (E := g_fu) (k := 4) rfl
      unfold pot
      rw [hf7, hf8, ga_ln g4, gz_app, gz_fu]
      omega
    have i7 : H16 G.length 7 = 0 := by rw [hi _ _ (Int.le_refl _)]; exact f7
    clear low hi e12 e13 e16 k1 f0 f1 f2 f3 f4 f7 f8 f9 hfk
    refine cT_stp tk16 ⟨by omega, by omega⟩ (fun K2 a2 b2 => ?_)
    have fs2 := c_fs_C fs16 b2
    have Z2 := c_Z_C Z16 b2
    have at2 : ∀ a k : Int, a ≠ 3 → K2 a k = H16 a k := fun a k ha => b2.1 a k (by simp only [List.mem_cons, List.not_mem_nil, or_false]; exact ha)
    have k27 : K2 G.length 7 = 0 := by rw [at2 _ _ (by omega)]; exact i7
    have k28 : K2 G.length 8 = H16 G.length 8 := at2 _ _ (by omega)
    have pt2 : pot K2 (G ++ g_fu) G.length = gz G + 860 := by rw [← pt16]; unfold pot; rw [k27, k28, i7]
    have g143 : K2 14 3 = (nf : Int) + 1 := by rw [at2 _ _ (by decide)]; exact w143
    have g15 : K2 15 nf = G.length := by rw [at2 _ _ (by decide)]; exact w15
    have gz2 : gz (G ++ g_fu) = gz G + 988 := by rw [gz_app, gz_fu]
    have his2 : ic + 1 + 1 < s := a2.2.2.2.2.2.2.1
    unfold wR_readColumns
    rw [(c_now a2).1]
    refine ⟨fun h40 => ⟨5, brF (by decide) (brT rfl ?_)⟩, fun h40 => cR_failHere a2 (by decide) (fun K3 hf3 => ⟨Or.inl rfl, brT rfl ⟨Or.inl rfl, brT rfl (hfl _ K3 _ (by rw [hu, if_pos h40]) (c_Z_f Z2 hf3) (by omega)).2⟩⟩)⟩
    rw [if_neg (fun z => z h40)] at hu
    rw [hu] at hok hfl
    refine cR_cls (f := (nf : Int)) (by omega) 4 (ic + 1 + 1) 0 _ g K2 _ (by omega) a2 ⟨by omega, by omega⟩ fs2 q2 q3 q5.1 k27 (fun j σ1 K3 G3 g3 he tk3 fs3 B3 hg3 k37 hpt3 => brF (by decide) ?_) (fun q K3 G3 he hb hz => brT rfl ⟨Or.inl rfl, brT rfl (hfl q K3 G3 (by rw [he]; rfl) ⟨hb.1, hb.2.1, c_Z_B Z2 h139 hb.2.2⟩ (by omega)).2⟩)
    rw [he] at hok hfl
    unfold a_fun2 at hok hfl
    simp only at hok hfl
    obtain ⟨c1, c2, c3, c4⟩ := a_cls_ok _ _ _ _ _ he q5.1 q1
    have Z3 := c_Z_B Z2 h139 B3
    have his3 : j < s := tk3.2.2.2.2.2.2.1
    have gz3 : gz G3 ≤ pot K3 G3 G.length + 128 := by
      obtain ⟨_, _, L, z3, z4, z5, z6, z7, _⟩ := fs3.2.1
      unfold pot
      rw [ga_ln z3.2]
      omega
    refine cR_expect tk3 (by decide) (fun h123 K4 a4 b4 => brF (by decide) ⟨Or.inr rfl, brF (by decide) ?_⟩) (fun h123 K4 hf4 => brT rfl ⟨Or.inl rfl, brT rfl (hfl _ K4 G3 (by rw [if_neg h123]) (c_Z_f Z3 hf4) (by omega)).2⟩)
    rw [if_pos h123] at hok hfl
    have fs4 := c_fs_C fs3 b4
    have at4 : ∀ a k : Int, a ≠ 3 → K4 a k = K3 a k := fun a k ha => b4.1 a k (by simp only [List.mem_cons, List.not_mem_nil, or_false]; exact ha)
    have k47 : K4 G.length 7 = K3 G.length 7 := at4 _ _ (by omega)
    have k48 : K4 G.length 8 = K3 G.length 8 := at4 _ _ (by omega)
    have pt4 : pot K4 G3 G.length = pot K3 G3 G.length := by unfold pot; rw [k47, k48]
    have Z4 := c_Z_C Z3 b4
    have e70 : σ1 70 nf = 0 := by rw [c4 70 _ (by omega) (by omega)]; exact q3
    have e16' : σ1 40 16 = σ 40 16 := by rw [c4 40 16 (by omega) (by omega)]; exact q6
    have pw1 : p_w σ1 m := by
      have e : ∀ a : Int, a ≠ 68 → a ≠ 69 → σ1 a = a_fnew σ nf (x_wo t n (ic + 1)) a := fun a y1 y2 => funext fun k => c4 a k (by omega) (by omega)
      obtain ⟨r1, r2, r3⟩ := q5
      refine ⟨k_inv_congr r1 (by rw [e 40 (by omega) (by omega)]) (e 42 (by omega) (by omega)) (e 43 (by omega) (by omega)) (e 44 (by omega) (by omega)) (e 45 (by omega) (by omega)), ?_⟩
      rw [e 40 (by omega) (by omega), e 55 (by omega) (by omega)]
      exact ⟨r2, r3⟩
    have F1 : F_one σ1 m nf := ⟨c2, c3, by rw [e70]; omega, fun k k0 hk => by rw [e70] at hk; omega⟩
    have L1 : F_lt σ1 m nf := fun g' g0 g1 => F_one_fr (q4 g' g0 g1) (fun a k hk => c4 a k (by omega) (by omega))
    have g3len : 139 ≤ (G3.length : Int) := by have := ga_lt fs3.2.1.2.1; omega
    have z143 : K4 14 3 = (nf : Int) + 1 := by rw [at4 _ _ (by decide), B3.2.2.2 3 (by decide) (by decide) (by decide)]; exact g143
    have z15 : K4 15 nf = G.length := by rw [at4 _ _ (by decide), B3.2.1 15 nf (by omega) (by decide) (by decide)]; exact g15
    unfold wR_readRules
    refine ⟨18, cR_rules (f := (nf : Int)) (by omega) 17 (j + 1) 0 σ1 g3 K4 G3 (by omega) a4 fs4 e70 pw1 (by omega) F1 L1 (by omega) g3len (fun j2 σ2 K5 G5 g5 he2 tk5 fs5 B5 hg5 k57 hpt5 => ?_) (fun q K5 G5 he2 hb hz => (hfl q K5 G5 he2 ⟨hb.1, hb.2.1, c_Z_B Z4 h139 hb.2.2⟩ (by omega)).1)⟩
    have gz5 : gz G5 ≤ pot K5 G5 G.length + 128 := by
      obtain ⟨_, _, L, z3, z4, z5, z6, z7, _⟩ := fs5.2.1
      unfold pot
      rw [ga_ln z3.2]
      omega
    have hj2 := (a_rules_ok (m := m) (f := (nf : Int)) (by omega) _ _ _ _ _ he2 pw1 (by omega) F1 L1).2.2.2.2.1
    refine hok j2 σ2 K5 G5 g5 he2 tk5 fs5 (c_Z_B Z4 h139 B5) ?_ ?_ (fun a k a0 a2 hk => ?_) (by omega) (by omega)
    · rw [B5.2.2.2 3 (by decide) (by decide) (by decide)]; exact z143
    · rw [B5.2.1 15 nf (by omega) (by decide) (by decide)]; exact z15
    · rw [hg5.1 a k a0 a2 (by omega), hg3 a k (by omega)]
  · rw [if_neg hz]
    refine brF hz (bad 3 (by decide) ?_)
    rw [hu, if_pos (by omega)]
end CHD
