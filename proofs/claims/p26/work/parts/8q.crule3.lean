theorem c_gd_79 {σ σ2 R R2 : e3_H} {r ru : Int} (h : c_gd σ r R ru) (e : ∀ a k : Int, a < 79 → σ2 a k = σ a k) (e7 : R2 ru 7 = R ru 7) (eR : ∀ a k : Int, ru + 2 ≤ a → a ≤ ru + 4 → R2 a k = R a k) : c_gd σ2 r R2 ru := by
  obtain ⟨h1, h2⟩ := h
  refine ⟨by rw [e7, e 78 _ (by decide)]; exact h1, ?_⟩
  rw [e 78 _ (by decide)]
  rcases h2 with h2 | ⟨h2, h3, h4⟩
  · exact Or.inl h2
  · exact Or.inr ⟨h2, c_sm_eq h3 (fun a b hab => e a b (by omega)) (e _ _ (by decide)) (e _ _ (by decide)) (fun _ => e _ _ (by decide)) (eR _ _ (by omega) (by omega)) (fun a b hab => eR a b (by omega) (by omega)), c_sm_eq h4 (fun a b hab => e a b (by omega)) (e _ _ (by decide)) (e _ _ (by decide)) (fun _ => e _ _ (by decide)) (eR _ _ (by omega) (by omega)) (fun a b hab => eR a b (by omega) (by omega))⟩
section CRV
variable {t : Int → Int} {n s m : Nat} {fu : Int}
theorem a_cols_73 {f : Int} {mu : Bool} : ∀ (rem c : Nat) (last : Int) (i : Nat) (σ : e3_H) (j : Nat) (σ2 : e3_H), a_cols t n f mu rem c last i σ = .inr (j, σ2) → p_inv σ m i → σ 40 16 ≤ (i : Int) → (1 ≤ σ 74 (σ 40 27) ∧ σ 74 (σ 40 27) ≤ 1000) → (c ≠ 0 → 0 ≤ last) → σ2 73 = σ 73 := by
  intro rem
  induction rem with
  | zero => intro c last i σ j σ2 h _ _ _ _; cases h; rfl
  | succ rem ih =>
    intro c last i σ j σ2 h hp h16 h74 hl
    unfold a_cols at h
    split at h
    · cases h
    · split at h
      · cases h
      · rename_i j2 σ3 p hpt
        have hij : i ≤ (if c = 0 then i else i + 1) := by split <;> omega
        obtain ⟨b1, b2, b3, b4, b5, b6⟩ := a_pat_ok _ _ _ _ _ _ _ _ _ hpt (p_inv_le hp hij) (by omega)
        have e27 : σ3 40 27 = σ 40 27 := b6.2.1 27 (by omega) (by omega)
        have e74 : σ3 74 = σ 74 := b6.2.2.1 74 (by omega) (by omega)
        have hp0 := hp.2.1.1
        obtain ⟨c1, c2, c3, c4, c5⟩ := a_col1_ok (r := σ 40 27) (p0 := 0) (c := c) (last := last) (p := p) b5 (by rw [e27, e74]; exact h74) (by omega) e27 hl
        have := ih (c + 1) p j2 _ j σ2 h c1 (by rw [c3]; omega) (by rw [c4]; exact c5) (by omega)
        rw [this]
        funext y
        unfold a_col1 a_mulr
        rw [e3_up_ne (by omega)]
        split <;> rw [e3_up_ne (by omega), b6.2.2.1 73 (by omega) (by omega)]
theorem cR_rule {Q : Int → e3_H → e3_G → Prop} {k2 : Int → e3_H → e3_G → Prop} {f muI : Int} {k ic : Nat} {H : e3_H} {G : e3_G} {σ g K H6 : e3_H} (hf : 0 ≤ f ∧ f < 12) (hk : σ 70 f = (k : Int)) (hk16 : k ≤ 16) (hmu : muI = if decide (σ 70 f = 16) = true then 1 else 0) (htk : c_tk t n s ic H) (hkd : c_kd σ m H) (hpl : c_pl H G fu (g 3)) (h14 : H 14 6 = fu) (hp : p_w σ m) (h16 : σ 40 16 ≤ (ic : Int)) (hc : c_ok σ m f) (h68 : 1 ≤ σ 68 f) (hfc : c_fc fu (σ 68 f).toNat (fun c => σ 69 (3 * f + c)) g H G) (h7 : H fu 7 ≤ (ic : Int)) (h139 : 139 ≤ (G.length : Int))
    (hsk : c_sk G.length K (G ++ g_ru)) (hr0 : c_r0 G.length k (x_sp t n ic) K) (hK : ∀ b k : Int, b < G.length → K b k = H b k) (e6 : H6 = e3_up K 14 7 G.length)
    (hok : ∀ j σ2 K2 G2 g2, a_rule t n f ic σ = .inr (j, σ2) → c_tk t n s j K2 → c_kd σ2 m K2 → c_pl K2 G2 fu (g2 3) → K2 14 6 = fu → K2 14 7 = G.length → c_F fu H G K2 G2 → c_rd σ2 g2 K2 G2 (K2 fu 7) (16 * f + k) k (σ 40 16) (σ2 40 16) G.length → c_g g g2 (σ 40 16) (H fu 7) → (∀ q : Int, σ 40 16 ≤ q → q < σ2 40 16 → G.length ≤ g2 0 q) → (K2 fu 7 ≤ (j : Int) ∧ 2 * K2 fu 7 ≤ 2 * H fu 7 + ((j : Int) - ic)) → pot K2 G2 fu ≤ pot H G fu + 127 + 60 * ((j : Int) - ic) → wF_addRule (fun H10 G11 => k2 (e3_w32 ((k : Int) + 1)) H10 G11) fu G.length K2 G2)
    (hfl : ∀ q K2 G2, a_rule t n f ic σ = .inl q → c_bF fu q H G K2 G2 → gz G2 ≤ pot H G fu + 255 + 60 * ((s : Int) - ic + 1) → Q 0 K2 G2) : wR_readRules_51 Q k2 k muI H6 (G ++ g_ru) := by
  have hrn : 0 ≤ a_rno f σ ∧ a_rno f σ < 192 := by unfold a_rno; split <;> omega
  have er : σ 70 f < 16 → a_rno f σ = 16 * f + k := fun hz => by unfold a_rno; rw [if_neg (by omega), hk]
  have tp0 := c_tp_new (t := t) (n := n) (s := s) (m := m) hrn htk hkd hpl h14 hp h16 hsk hr0 hK h139 e6
  have hrule : a_rule t n f ic σ = (match a_cols t n f (decide (σ 70 f = 16)) (σ 68 f).toNat 0 (-4) ic (a_rule0 t n (a_rno f σ) ic σ) with
    | .inl q => .inl q
    | .inr (j, σ1) => if x_ty t n j = 44 then .inl (x_sp t n j : Int) else match a_guard t n j σ1 with
      | .inl q => .inl q
      | .inr (j2, σ2) => if x_ty t n j2 = 58 then (match a_answer t n (j2 + 1) σ2 with
          | .inl q => .inl q
          | .inr (j3, σ3) => if x_ty t n j3 = 59 then .inr (j3 + 1, e3_up σ3 70 f (σ3 70 f + 1)) else .inl (x_sp t n j3 : Int))
        else .inl (x_sp t n j2 : Int)) := rfl
  obtain ⟨q1, q2, L, q3, _⟩ := id hpl
  have hfl' := ga_lt q2
  have n14 : fu ≠ 14 := by omega
  have u7 : H6 fu 7 = H fu 7 := by rw [e6, e3_up_ne (ne_1 n14)]; exact hK _ _ hfl'
  have u8 : H6 fu 8 = H fu 8 := by rw [e6, e3_up_ne (ne_1 n14)]; exact hK _ _ hfl'
  have hP : pot H6 (G ++ g_ru) fu = pot H G fu + 127 := by unfold pot; rw [u7, u8, gz_app, gz_ru, ga_ln q3.2, ga_ln (ga_app q3.2)]; omega
  generalize hr : a_rno f σ = r at *
  have z27 : a_rule0 t n r ic σ 40 27 = r := by unfold a_rule0; simp (disch := omega) only [e3_up_self, e3_up_ne]
  have z74 : a_rule0 t n r ic σ 74 r = 1 := by unfold a_rule0; simp (disch := omega) only [e3_up_self, e3_up_ne]
  have z56 : a_rule0 t n r ic σ 56 r = 0 := by unfold a_rule0; simp (disch := omega) only [e3_up_self, e3_up_ne]
  have z73 : a_rule0 t n r ic σ 73 r = x_sp t n ic := by unfold a_rule0; simp (disch := omega) only [e3_up_self, e3_up_ne]
  have z16 : a_rule0 t n r ic σ 40 16 = σ 40 16 := by unfold a_rule0; simp (disch := omega) only [e3_up_self, e3_up_ne]
  have z69 : ∀ x, a_rule0 t n r ic σ 69 x = σ 69 x := by intro x; unfold a_rule0; simp (disch := omega) only [e3_up_self, e3_up_ne]
  have R0v : ∀ k' : Int, H6 G.length k' = K G.length k' := fun k' => by rw [e6, e3_up_ne (ne_1 (by omega))]
  have R0w : ∀ j k' : Int, 1 ≤ j → j ≤ 6 → H6 (G.length + j) k' = 0 := fun j k' j1 j6 => by rw [e6, e3_up_ne (ne_1 (by omega))]; exact hr0.2.2.2.2.2.2.2.2.2.2 j k' j1 j6
  have R11 : H6 G.length 11 = 0 := by rw [R0v]; exact hr0.2.2.2.2.2.2.2.1
  have R15 : H6 G.length 15 = 0 := by rw [R0v]; exact hr0.2.2.2.2.2.2.2.2.2.1
  have R7 : H6 G.length 7 = 0 := by rw [R0v]; exact hr0.2.2.2.2.2.2.1
  have R0n : H6 G.length 0 = k := by rw [R0v]; exact hr0.1
  have R1s : H6 G.length 1 = x_sp t n ic := by rw [R0v]; exact hr0.2.1
  clear hK hr0 hsk R0v
  rw [hrule] at hok hfl
  unfold wR_readRules_51
  refine ⟨(σ 68 f).toNat + 1, cR_cols (P := pot H6 (G ++ g_ru) fu) (P7 := H fu 7) (i0 := ic) (f := f) (mu := decide (σ 70 f = 16)) hmu (cR_readPattern 6 0 rfl) (by
      have e : (fun c : Nat => a_rule0 t n r ic σ 69 (3 * f + c)) = (fun c : Nat => σ 69 (3 * f + c)) := funext fun c => z69 _
      rw [e]; exact hfc) hpl (fun c hc' => by rw [z69]; exact hc.2 c (by omega)) (σ 68 f).toNat 0 ic _ g H6 (G ++ g_ru) [] (-4) (-1) (by omega) tp0 rfl (by omega) (fun z => absurd rfl z) (by omega) (by omega) (by omega) (fun j1 σ1 K1 G1 g1 l1 li1 la1 W he t1 hli hW k7 hij hpot1 => ⟨fun h44 => brF (by decide) ?_, fun h44 K3 hb hz => brT rfl (hfl _ K3 G1 (by rw [he]; simp only; rw [if_pos h44]) hb (by omega))⟩) (fun q K1 G1 he hb hz => brT rfl (hfl q K1 G1 (by rw [he]) hb (by omega)))⟩
  rw [he] at hok hfl
  simp only [if_neg h44] at hok hfl
  have hli' := hli (by omega)
  -- the names are all bound
  have p0 := p_rule0 (x := x_sp t n ic) hp h16 hrn
  have zn := tp0.2.2.1.2.1
  rw [z27] at zn
  have npost := (nm_cols (r := r) _ _ _ _ _ _ _ he tp0.2.2.1.1 (by rw [z16]; exact h16) z27 (by rw [z74]; omega) (fun z => absurd rfl z) (fun k' _ hk' => by rw [z69]; exact hc.2 k' (by omega)) zn).2
  have e73 : σ1 73 = a_rule0 t n r ic σ 73 := a_cols_73 _ _ _ _ _ _ _ he tp0.2.2.1.1 (by rw [z16]; exact h16) (by rw [z27, z74]; omega) (fun z => absurd rfl z)
  have h56 := t1.2.2.1.1.2.2.2.1
  rw [t1.2.2.1.2.2.2.2.1, z27] at h56
  have hab : ∀ k' : Nat, (k' : Int) < σ1 56 r → b_bit (σ1 40 31) k' = true := fun k' hk' => npost.2.1 k' (by omega) (by rw [z56]; omega) hk'
  have c4 := (a_cols_ok (r := r) (p0 := σ 40 16) _ _ _ _ _ _ _ he tp0.2.2.1.1 (by rw [z16]; exact h16) z27 (by rw [z74]; omega) (by rw [z16]; omega) (fun z => absurd rfl z))
  -- behind the guard
  have rest : ∀ (j2 : Nat) (σ2 K2 R2 : e3_H), a_guard t n j1 σ1 = .inr (j2, σ2) → c_tp t n s m G.length fu H G (a_rule0 t n r ic σ) g R2 j2 σ2 g1 K2 G1 l1 li1 la1 → (∀ a b : Int, ¬ (a = G.length ∧ b = 7) → ¬ (G.length + 2 ≤ a ∧ a ≤ G.length + 4) → R2 a b = (e3_up (e3_up H6 0 0 1) G.length 3 W) a b) → c_gd σ2 r R2 G.length → (∀ a b : Int, ¬ (75 ≤ a ∧ a ≤ 78) → σ2 a b = σ1 a b) → K2 fu 7 = K1 fu 7 → K2 fu 8 = K1 fu 8 → j1 ≤ j2 → wR_readRules_81 Q k2 k K2 G1 := by
    intro j2 σ2 K2 R2 hg t2 hR2 hgd hσ2 f7 f8 hij2
    rw [hg] at hok hfl
    simp only at hok hfl
    have hjs : j2 < s := t2.1.1.2.2.2.2.2.2.1
    have hgz := gz_pot t2.1
    have ept : pot K2 G1 fu = pot K1 G1 fu := by unfold pot; rw [f7, f8]
    have bad : ∀ (q : Int) (K3 : e3_H), a_rule t n f ic σ = .inl q → c_bF fu q H G K3 G1 → wR_readRules_106 Q K3 G1 := by
      intro q K3 hq hb
      unfold wR_readRules_106
      rw [hrule, he] at hq
      simp only [if_neg h44, hg] at hq
      exact hfl q K3 G1 hq hb (by omega)
    have hq0 : ∀ z : a_S, z = a_rule t n f ic σ → a_rule t n f ic σ = z := fun z hz => hz.symm
    have hrl : a_rule t n f ic σ = (if x_ty t n j2 = 58 then (match a_answer t n (j2 + 1) σ2 with
          | .inl q => .inl q
          | .inr (j3, σ3) => if x_ty t n j3 = 59 then .inr (j3 + 1, e3_up σ3 70 f (σ3 70 f + 1)) else .inl (x_sp t n j3 : Int))
        else .inl (x_sp t n j2 : Int)) := by
      rw [hrule, he]
      simp only [if_neg h44, hg]
    unfold wR_readRules_81
    refine expect_tp t2 (by decide) (fun h58 K3 t3 f73 f83 => brF (by decide) ?_) (fun h58 K3 hb => brT rfl (bad _ K3 (by rw [hrl, if_neg h58]) hb))
    rw [if_pos h58] at hok hfl hrl
    have R2v : ∀ b : Int, b ≠ 7 → R2 G.length b = (e3_up (e3_up H6 0 0 1) G.length 3 W) G.length b := fun b hb => hR2 _ _ (fun z => hb z.2) (fun z => by omega)
    have l0 : ¬ ((G.length : Int) = 0) := by omega
    refine cR_answer (R0 := R2) t3 (fun k' hk' => ?_) ?_ ?_ (fun j3 σ3 K4 R3 ha t4 hR3 han hσ3 f74 f84 hij3 => brF (by decide) ?_) (fun q K4 ha hb => brT rfl (bad q K4 (by rw [hrl, ha]) hb))
    · rw [hσ2 56 _ (by decide), z27] at hk'
      rw [hσ2 40 31 (by decide)]
      exact hab k' hk'
    · rw [R2v 11 (by decide), e3_up_ne (fun z => by omega), e3_up_ne (fun z => l0 z.1)]; exact R11
    · rw [R2v 15 (by decide), e3_up_ne (fun z => by omega), e3_up_ne (fun z => l0 z.1)]; exact R15
    rw [ha] at hok hfl hrl
    simp only at hok hfl hrl
    refine expect_tp t4 (by decide) (fun h59 K5 t5 f75 f85 => brF (by decide) ?_) (fun h59 K5 hb => brT rfl (bad _ K5 (by rw [hrl, if_neg h59]) hb))
    rw [if_pos h59] at hok hrl
    have hlt16 : σ 70 f < 16 := (a_rule_ok hrl hp h16 hf hc h68 (by omega)).2.1
    have hr' := er hlt16
    obtain ⟨o1, ⟨o2, o2b, o2c, o2d⟩, ⟨o3, o4, o5, o6, o7, o7b⟩, ⟨o8, o9⟩, ⟨o10, o11⟩, o12, o13, ⟨o14, o15, o16⟩⟩ := id t5
    rw [z27] at o4 o7 o8 o12 o14
    rw [z16] at o6 o8 o12 o13
    rw [z27] at han
    have e14 : K5 14 6 = fu := o1.2.2.2.2
    have e147 : K5 14 7 = G.length := o1.2.2.1.1
    rw [e14, e147]
    refine ⟨ga_ob (c := 8) o1.2.2.2.1.2.1, ?_⟩
    have e70 : ∀ a b : Int, a ≠ 70 → (e3_up σ3 70 f (σ3 70 f + 1)) a b = σ3 a b := fun a b ha => e3_up_ne (ne_1 ha)
    have e5 : K5 G.length 5 = G.length + 1 := o2d.2.2.1.1
    have v7 : K5 fu 7 = K1 fu 7 := by rw [f75, f74, f73]; exact f7
    have v8 : K5 fu 8 = K1 fu 8 := by rw [f85, f84, f83]; exact f8
    have hσ13 : ∀ a b : Int, a < 75 → σ3 a b = σ1 a b := fun a b ha => by rw [hσ3 a b (by omega), hσ2 a b (by omega)]
    have R3v : ∀ b : Int, b ≠ 7 → ¬ (11 ≤ b ∧ b ≤ 15) → R3 G.length b = (e3_up (e3_up H6 0 0 1) G.length 3 W) G.length b := fun b hb hb2 => by rw [hR3 _ _ (fun z => hb2 z.2) (fun z => by omega)]; exact R2v b hb
    have flag : R3 0 0 = 1 := by rw [hR3 _ _ (fun z => by omega) (fun z => by omega), hR2 _ _ (fun z => by omega) (fun z => by omega), e3_up_ne (fun z => by omega), e3_up_self]
    have kr : ∀ b : Int, b ≠ 2 → b ≠ 4 → b ≠ 6 → K5 G.length b = R3 G.length b := fun b b2 b4 b6 => o15 b b2 (Or.inr flag) b4 b6
    have n0 : ∀ b : Int, b ≠ 3 → (e3_up (e3_up H6 0 0 1) G.length 3 W) G.length b = H6 G.length b := fun b hb => by rw [e3_up_ne (fun z => hb z.2), e3_up_ne (fun z => l0 z.1)]
    have h56' : (0 ≤ σ3 56 r ∧ σ3 56 r ≤ 8) := by rw [hσ13 56 _ (by decide)]; exact h56
    have habs : ∀ k' : Nat, k' < 8 → (b_bit (σ3 40 31) k' = true ↔ (k' : Int) < σ3 56 r) := fun k' hk' => ⟨fun hb => o4.1 k' hk' hb, fun hl => by rw [hσ13 40 31 (by decide)]; exact hab k' (by rw [← hσ13 56 _ (by decide)]; exact hl)⟩
    have hc_rl := o1.2.2.1
    obtain ⟨w1, w2, w3, w4, w5, w6, w7, w8, w9⟩ := hc_rl
    rw [o7] at w6 w7
    rw [e5] at w7
    rcases o12 with ⟨_, y2, _⟩ | ⟨_, _, ⟨x1, x2, x3, x4, x5⟩⟩
    · exact absurd y2 hli'
    have rd : c_rd σ3 g1 K5 G1 (K5 fu 7) r k (σ 40 16) (σ3 40 16) G.length := by
      refine ⟨⟨o2d, ⟨?_, ?_, x1, x2, x3, x4, x5⟩, ?_, ⟨w6, h56', fun k' hk' => ?_, ?_⟩, ?_, ?_, ?_⟩, fun q q0 q1 => (o8 q q0 q1).1⟩
      · rw [kr 0 (by decide) (by decide) (by decide), R3v 0 (by decide) (by decide), n0 0 (by decide)]; exact R0n
      · rw [kr 1 (by decide) (by decide) (by decide), R3v 1 (by decide) (by decide), n0 1 (by decide), R1s, hσ13 73 _ (by decide), e73, z73]
      · rw [kr 3 (by decide) (by decide) (by decide), R3v 3 (by decide) (by decide), e3_up_self, hσ13 74 _ (by decide)]; rw [z27] at hW; exact hW
      · have := w7 k' hk'
        unfold a_rn at this
        rw [o7] at this
        exact this
      · have := w9
        unfold a_ds a_rn a_nm at this
        rw [o7] at this
        exact this
      · rw [w8]
        refine lb_congr (fun k' hk' => ?_)
        unfold c_nm
        rw [o7]
        by_cases hz : (k' : Int) < σ3 56 r
        · rw [if_pos hz, if_pos ((habs k' hk').mpr hz)]
        · rw [if_neg hz, if_neg (fun z => hz ((habs k' hk').mp z))]
      · refine c_gd_79 hgd (fun a b ha => hσ3 a b (by omega)) ?_ (fun a b a1 a2 => ?_)
        · rw [kr 7 (by decide) (by decide) (by decide), hR3 _ _ (fun z => by omega) (fun z => by omega)]
        · have := o16 (a - G.length) b (by omega) (by omega)
          rw [show (G.length : Int) + (a - G.length) = a by omega] at this
          rw [this, hR3 _ _ (fun z => by omega) (fun z => by omega)]
      · refine c_an_R han (fun b b1 b2 => kr b (by omega) (by omega) (by omega)) (fun a b a1 a2 => ?_)
        have := o16 (a - G.length) b (by omega) (by omega)
        rw [show (G.length : Int) + (a - G.length) = a by omega] at this
        exact this
    have z40 : (e3_up σ3 70 f (σ3 70 f + 1)) 40 16 = σ3 40 16 := e70 _ _ (by decide)
    have rd2 : c_rd (e3_up σ3 70 f (σ3 70 f + 1)) g1 K5 G1 (K5 fu 7) (16 * f + k) k (σ 40 16) ((e3_up σ3 70 f (σ3 70 f + 1)) 40 16) G.length := by
      rw [z40, ← hr']
      exact c_rd_keep rd ⟨[], by rw [List.append_nil]⟩ (fun a b hab' => e70 a b (by rcases hab' with z | z; omega; unfold r_own at z; omega)) (fun _ _ _ _ _ => rfl) (fun _ _ _ => rfl) (Int.le_refl _) (fun _ _ _ _ => rfl) (fun _ _ _ _ => rfl)
    refine hok (j3 + 1) _ K5 G1 g1 rfl o1.1 ?_ o1.2.2.2.1 e14 e147 o2 rd2 o13 (fun q q0 q1 => (o8 q q0 (by rw [z40] at q1; exact q1)).2) (by omega) ?_
    · have := o1.2.1
      unfold c_kd at this ⊢
      rw [funext (e70 42 · (by decide)), funext (e70 43 · (by decide)), funext (e70 44 · (by decide)), funext (e70 45 · (by decide))]
      exact this
    · have : pot K5 G1 fu = pot K1 G1 fu := by unfold pot; rw [v7, v8]
      omega
  rw [(c_now t1.1.1).1]
  refine ⟨fun h273 => ?_, fun h273 => ?_⟩
  · have hjs : j1 < s := t1.1.1.2.2.2.2.2.2.1
    have hgz := gz_pot t1.1
    refine cR_guard t1 h273 ?_ ?_ (fun j2 σ2 K2 R2 hg t2 hR hgd hσ f7 f8 hij2 => brF (by decide) (rest j2 σ2 K2 R2 hg t2 hR (by rw [z27] at hgd; exact hgd) hσ f7 f8 (by omega))) (fun q K2 hg hb => brT rfl (hfl q K2 G1 (by rw [hg]) hb (by omega)))
    · rw [e3_up_ne (fun z => by omega), e3_up_ne (fun z => by omega)]; exact R0w 2 0 (by decide) (by decide)
    · rw [e3_up_ne (fun z => by omega), e3_up_ne (fun z => by omega)]; exact R0w 2 1 (by decide) (by decide)
  · have o7 : σ1 40 27 = r := by rw [t1.2.2.1.2.2.2.2.1, z27]
    have hg : a_guard t n j1 σ1 = .inr (j1, e3_up σ1 78 r 0) := by
      unfold a_guard
      rw [if_neg h273, o7]
    refine rest j1 (e3_up σ1 78 r 0) K1 _ hg (c_tp_σ t1 (g_up (g_rf _) (by decide))) (fun _ _ _ _ => rfl) ⟨?_, Or.inl (e3_up_self _ _ _ _)⟩ (fun a b hn => e3_up_ne (fun z => hn (by omega))) rfl rfl (Nat.le_refl _)
    rw [e3_up_self, e3_up_ne (fun z => by omega), e3_up_ne (fun z => by omega)]; exact R7
end CRV
