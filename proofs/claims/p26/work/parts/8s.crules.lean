section CRS
variable {t : Int → Int} {n s m : Nat} {fu : Int}
theorem c_pl_eq2 {cx : Int → Int} {H K : e3_H} {G E : e3_G} (h : c_pl H G fu cx) (he : ∀ a k : Int, (a = fu ∧ (k = 7 ∨ k = 8 ∨ k = 9)) ∨ a = H fu 8 ∨ a = H fu 9 → K a k = H a k) : c_pl K (G ++ E) fu cx := by
  obtain ⟨h1, h2, L, h3, h4, h5, h6, h7, h8, h9⟩ := h
  have e7 : K fu 7 = H fu 7 := he fu 7 (Or.inl ⟨rfl, Or.inl rfl⟩)
  have e8 : K fu 8 = H fu 8 := he fu 8 (Or.inl ⟨rfl, Or.inr (Or.inl rfl)⟩)
  have e9 : K fu 9 = H fu 9 := he fu 9 (Or.inl ⟨rfl, Or.inr (Or.inr rfl)⟩)
  refine ⟨h1, ga_app h2, L, by rw [e8]; exact ⟨h3.1, ga_app h3.2⟩, by rw [e9]; exact ⟨h4.1, ga_app h4.2⟩, by rw [e8, e9]; exact h5, by rw [e7]; exact h6, by rw [e7]; exact h7, fun p hp => ?_, fun p q hp hq => ?_⟩
  · rw [e7] at hp
    unfold c_p1
    rw [e8, e9, he _ _ (Or.inr (Or.inl rfl)), he _ _ (Or.inr (Or.inr rfl))]
    exact h8 p hp
  · rw [e7] at hp hq
    exact h9 p q hp hq
theorem c_fs_C {f : Int} {σ g H K : e3_H} {G : e3_G} (h : c_fs m fu f σ g H G) (b : x_C H K) : c_fs m fu f σ g K G := by
  have at2 : ∀ a k : Int, a ≠ 3 → K a k = H a k := fun a k ha => b.1 a k (by simp only [List.mem_cons, List.not_mem_nil, or_false]; exact ha)
  obtain ⟨h1, h2, h3, ⟨h4, ⟨h4a, h4b⟩, h4c, h4d⟩, ⟨h5, h6, h7, h7b⟩, ⟨h8, h9, h10, h11⟩, h12, h13⟩ := h
  have q1 := h2.1
  have q2 := h2.2.1
  have q3 : 139 ≤ H fu 8 ∧ 139 ≤ H fu 9 := by obtain ⟨_, _, L, y3, y4, _⟩ := h2; exact ⟨y3.1, y4.1⟩
  have ef : ∀ k, K fu k = H fu k := fun k => at2 _ _ (by omega)
  have hp2 := c_pl_eq (E := []) (K := K) h2 (fun a k ha => at2 a k (by omega))
  rw [List.append_nil] at hp2
  refine ⟨ckd_eq h1 (fun a k ha => at2 a k (by omega)), hp2, by rw [at2 14 6 (by decide)]; exact h3, ⟨by rw [ef]; exact h4, by rw [ef]; exact ⟨h4a, h4b⟩, h4c, fun c hc => ?_⟩, by rw [ef, ef, ef]; exact ⟨h5, h6, h7, h7b⟩, by rw [ef, ef, ef, ef]; exact ⟨h8, h9, h10, h11⟩, fun k hk => ?_, ?_⟩
  · rw [ef, ef, at2 _ _ (by omega)]; exact h4d c hc
  · exact c_r1_keep (h12 k hk) h2 h7b ⟨[], by rw [List.append_nil]⟩ (fun _ _ _ => rfl) (Int.le_refl _) ⟨fun _ _ _ _ _ => rfl, fun _ _ _ => rfl⟩ (by rw [ef]; exact Int.le_refl _) (ef 4) (at2 _ _ (by omega)) (fun x y _ x3 _ _ _ _ => at2 x y (by omega))
  · have := c_fk_eq (E := []) (K := K) h13 (ef 5) (ef 6) (ef 10) (fun k => at2 _ _ (by omega))
    rw [List.append_nil] at this
    exact this
theorem cR_rules {Q : Int → e3_H → e3_G → Prop} {f : Int} (hf : 0 ≤ f ∧ f < 12) : ∀ (g' ic k : Nat) (σ g H : e3_H) (G : e3_G), g' + k = 17 → c_tk t n s ic H → c_fs m fu f σ g H G → σ 70 f = (k : Int) → p_w σ m → σ 40 16 ≤ (ic : Int) → F_one σ m f → F_lt σ m f → H fu 7 ≤ (ic : Int) → 139 ≤ (G.length : Int) →
    (∀ j σ2 K2 G2 g2, a_rules t n f g' ic σ = .inr (j, σ2) → c_tk t n s j K2 → c_fs m fu f σ2 g2 K2 G2 → c_B fu H G K2 G2 → c_g g g2 (σ 40 16) (H fu 7) → (K2 fu 7 ≤ (j : Int) ∧ 2 * K2 fu 7 ≤ 2 * H fu 7 + ((j : Int) - ic)) → pot K2 G2 fu ≤ pot H G fu + 200 * ((j : Int) - ic) → Q 1 K2 G2) →
    (∀ q K2 G2, a_rules t n f g' ic σ = .inl q → c_bB fu q H G K2 G2 → gz G2 ≤ pot H G fu + 255 + 200 * ((s : Int) - ic + 1) → Q 0 K2 G2) → wR_readRules_2 Q (g' + 1) k H G := by
  intro g'
  induction g' with
  | zero => intro ic k σ g H G hg _ _ hk _ _ hF; have := hF.2.2.1; omega
  | succ g' ih =>
    intro ic k σ g H G hg htk hfs hk hp h16 hF hL h7 h139 hok hfl
    have hk16 : k ≤ 16 := by have := hF.2.2.1; omega
    obtain ⟨s1, s2, s3, s4, ⟨s5, s6, s7, s7b⟩, ⟨s8, s9, s10, s11⟩, s12, s13⟩ := id hfs
    have hful := ga_lt s2.2.1
    have h8l : H fu 8 < G.length ∧ H fu 9 < G.length := by obtain ⟨_, _, L, y3, y4, _⟩ := s2; exact ⟨ga_lt y3.2, ga_lt y4.2⟩
    have f139 := s2.1
    have his : ic < s := htk.2.2.2.2.2.2.1
    obtain ⟨n7, n8, n9⟩ := c_now htk
    unfold wR_readRules_2
    rw [n7]
    refine brF (by omega) ⟨fun h125 => ?_, fun h125 => ?_⟩
    · unfold wR_readRules_125
      refine cR_expect htk (by decide) (fun _ K2 a b => ⟨Or.inr rfl, ?_⟩) (fun hne => absurd h125 hne)
      have at2 : ∀ a k : Int, a ≠ 3 → K2 a k = H a k := fun a k ha => b.1 a k (by simp only [List.mem_cons, List.not_mem_nil, or_false]; exact ha)
      have e7 : K2 fu 7 = H fu 7 := at2 _ _ (by omega)
      have e8 : K2 fu 8 = H fu 8 := at2 _ _ (by omega)
      refine hok (ic + 1) σ K2 G g (by unfold a_rules; rw [if_pos h125]) a (c_fs_C hfs b) (c_B_C (c_B_rf _ _ _) b) ⟨fun _ _ _ _ _ => rfl, fun _ _ _ => rfl⟩ (by omega) ?_
      have : pot K2 G fu = pot H G fu := by unfold pot; rw [e7, e8]
      omega
    · have hu : a_rules t n f (g' + 1) ic σ = (match a_rule t n f ic σ with
        | .inl q => .inl q
        | .inr (j, σ2) => a_rules t n f g' j σ2) := by
        conv => lhs; unfold a_rules
        rw [if_neg h125]
        rfl
      rw [hu] at hok hfl
      intro H1 G2 e1 e2
      subst e1 e2
      rw [nw_ne (show (3 : Int) ≠ G.length by omega), n8]
      refine ⟨by omega, cU_init h139 (fun K hsk hr0 hK => ?_)⟩
      intro H6 e6
      have main : ∀ muI : Int, (muI = if decide (σ 70 f = 16) = true then 1 else 0) → wR_readRules_51 Q (fun l1 H G => wR_readRules_2 Q (g' + 1) l1 H G) k muI H6 (G ++ g_ru) := by
        intro muI hmu
        refine cR_rule hf hk hk16 hmu htk s1 s2 s3 hp h16 hF.1 hF.2.1 s4 h7 h139 hsk hr0 hK e6 (fun j σ2 K2 G2 g2 he tk2 kd2 pl2 e14 e147 cF rd2 hg2 hadr k7 hpot2 => ?_) (fun q K2 G2 he hb hz => hfl q K2 G2 (by rw [he]) ⟨hb.1, hb.2.1, c_F_B hb.2.2 hful s10 s11⟩ (by omega))
        rw [he] at hok hfl
        obtain ⟨b1, b2, b3, b4, b5, b6, b7, b8⟩ := a_rule_ok he hp h16 hf hF.1 hF.2.1 hF.2.2.1
        obtain ⟨d1, d2, d3, d4, d5, d6⟩ := F_rule he hp h16 hf hF hL
        have fuf : ∀ k' : Int, k' ≠ 7 → k' ≠ 8 → k' ≠ 9 → K2 fu k' = H fu k' := cF.2.2.2.2.1
        have e3 : K2 fu 3 = (k : Int) := by rw [fuf 3 (by decide) (by decide) (by decide), s6]; exact hk
        have e4 : K2 fu 4 = H fu 4 := fuf 4 (by decide) (by decide) (by decide)
        have hlen := c_F_len cF
        obtain ⟨E2, eG2⟩ := id cF.1
        have s7c : g_at G2 (H fu 4) (5, 16) := by rw [eG2]; exact ga_app s7b
        have obf := ga_ob (c := 8) pl2.2.1
        have obr : e3_ob G2 9 G.length := ga_ob (c := 9) rd2.1.1.2.1
        have h4l := ga_lt s7b
        have pl28 : fu < K2 fu 8 ∧ fu < K2 fu 9 := by
          have := cF.2.2.2.2.2.1
          have := cF.2.2.2.2.2.2.1
          omega
        have n48 : H fu 4 ≠ fu ∧ H fu 4 ≠ K2 fu 8 ∧ H fu 4 ≠ K2 fu 9 ∧ H fu 4 ≠ H fu 2 ∧ H fu 4 ≠ H fu 8 ∧ H fu 4 ≠ H fu 9 := by
          obtain ⟨_, y2, L, y3, y4, _⟩ := pl2
          obtain ⟨_, z2, L', z3, z4, _⟩ := s2
          exact ⟨ga_ne s7c y2 (by decide), ga_ne s7c y3.2 (by decide), ga_ne s7c y4.2 (by decide), ga_ne s7b s4.2.1.2 (by decide), ga_ne s7b z3.2 (by decide), ga_ne s7b z4.2 (by decide)⟩
        unfold wF_addRule wF_addRule_29
        rw [e3, e4]
        refine ⟨obf, brT (by omega) ⟨obf, obf, ga_oa s7c (by omega) (by omega), Or.inr obr, ?_⟩⟩
        intro H2 e2
        have u3 : H2 fu 3 = (k : Int) := by rw [e2, e3_up_ne (ne_1 (by omega))]; exact e3
        rw [u3, w_p1 (by omega)]
        refine ⟨obf, obf, ?_⟩
        intro H7 e7
        have k7a : ∀ a y : Int, a ≠ fu → a ≠ H fu 4 → H7 a y = K2 a y := fun a y y1 y2 => by rw [e7, e3_up_ne (ne_1 y1), e2, e3_up_ne (ne_1 y2)]
        have k7f : ∀ y : Int, y ≠ 3 → H7 fu y = K2 fu y := fun y hy => by rw [e7, e3_up_ne (fun z => hy z.2), e2, e3_up_ne (ne_1 (by omega))]
        have k74 : ∀ y : Int, y ≠ k → H7 (H fu 4) y = K2 (H fu 4) y := fun y hy => by rw [e7, e3_up_ne (ne_1 n48.1), e2, e3_up_ne (fun z => hy z.2)]
        have k7k : H7 (H fu 4) k = G.length := by rw [e7, e3_up_ne (ne_1 n48.1), e2, e3_up_self]
        have K24 : ∀ y : Int, K2 (H fu 4) y = H (H fu 4) y := fun y => cF.2.1 _ y h4l (by omega) (by omega) n48.1 n48.2.2.2.2.1 n48.2.2.2.2.2
        have v7 : H7 fu 7 = K2 fu 7 := k7f 7 (by decide)
        have v8 : H7 fu 8 = K2 fu 8 := k7f 8 (by decide)
        have v4 : H7 fu 4 = H fu 4 := by rw [k7f 4 (by decide)]; exact e4
        have pl7 : c_pl H7 G2 fu (g2 3) := by
          have := c_pl_eq2 (E := []) (K := H7) pl2 (fun a y ha => by
            rcases ha with ⟨z1, z2⟩ | z | z
            · rw [z1]; exact k7f y (by omega)
            · rw [z]; exact k7a _ _ (by omega) (fun w => n48.2.1 w.symm)
            · rw [z]; exact k7a _ _ (by omega) (fun w => n48.2.2.1 w.symm))
          rw [List.append_nil] at this
          exact this
        have e68 : σ2 68 f = σ 68 f := b7 68 f (by unfold h_own; omega) (by omega)
        have e69 : ∀ y, σ2 69 y = σ 69 y := fun y => b7 69 y (by unfold h_own; omega) (by omega)
        have h07 := cF.2.2.2.2.2.2.2
        obtain ⟨c1, ⟨c2, c3⟩, c4, c5⟩ := id s4
        have n2 : H fu 2 ≠ H fu 8 ∧ H fu 2 ≠ H fu 9 := by
          obtain ⟨_, z2, L', z3, z4, z5, z6, _⟩ := s2
          refine ⟨fun z => ?_, fun z => ?_⟩
          · rw [z] at c3; have := (Prod.mk.inj (ga_eq c3 z3.2)).2; omega
          · rw [z] at c3; have := (Prod.mk.inj (ga_eq c3 z4.2)).2; omega
        have hB7 : c_B fu H G H7 G2 := by
          have hB := c_F_B cF hful s10 s11
          exact ⟨hB.1, fun a y z1 z2 z3 => by rw [k7a a y (by omega) (by omega)]; exact hB.2.1 a y z1 z2 z3, fun y hy => by rw [k7a 3 y (by omega) (by omega)]; exact hB.2.2.1 y hy, fun y y4 y5 y7 => by rw [k7a 14 y (by omega) (by omega)]; exact hB.2.2.2 y y4 y5 y7⟩
        have fs7 : c_fs m fu f σ2 g2 H7 G2 := by
          refine ⟨ckd_eq kd2 (fun a y ha => k7a a y (by omega) (by omega)), pl7, by rw [k7a 14 6 (by omega) (by omega)]; exact e14, ⟨?_, ?_, ?_, fun c hc => ?_⟩, ⟨?_, ?_, ?_⟩, ⟨?_, ?_, ?_, ?_⟩, fun k' hk' => ?_, ?_⟩
          · rw [k7f 1 (by decide), fuf 1 (by decide) (by decide) (by decide), e68]; exact c1
          · rw [k7f 2 (by decide), fuf 2 (by decide) (by decide) (by decide)]; exact ⟨c2, by rw [eG2]; exact ga_app c3⟩
          · rw [e68]; exact c4
          · rw [e68] at hc
            obtain ⟨x1, x2, x3⟩ := c5 c hc
            rw [k7f 2 (by decide), fuf 2 (by decide) (by decide) (by decide), k7a _ _ (by omega) (fun w => n48.2.2.2.1 w.symm), cF.2.1 _ _ (ga_lt c3) (by omega) (by omega) (by omega) n2.1 n2.2, v7]
            exact ⟨x1.trans (e69 _).symm, by omega, by rw [hg2.2 c (by omega) x2]; exact x3⟩
          · rw [k7f 0 (by decide), fuf 0 (by decide) (by decide) (by decide), b7 67 f (by unfold h_own; omega) (by omega)]; exact s5
          · rw [e7, e3_up_self, b5, hk]; omega
          · rw [v4]; exact ⟨s7, s7c⟩
          · rw [k7f 2 (by decide), fuf 2 (by decide) (by decide) (by decide)]; exact s8
          · rw [v4]; exact s9
          · rw [v8]; exact pl28.1
          · rw [k7f 9 (by decide)]; exact pl28.2
          · rw [b5, hk] at hk'
            by_cases hz : k' = k
            · subst hz
              unfold c_r1
              rw [v4, k7k]
              refine ⟨hful, σ 40 16, σ2 40 16, ⟨hp.2.1, by omega, Int.le_refl _⟩, c_rd_keep rd2 ⟨[], by rw [List.append_nil]⟩ (fun _ _ _ => rfl) (fun _ _ _ _ _ => rfl) (fun _ _ _ => rfl) (by rw [v7]; exact Int.le_refl _) (fun x y x0 x1 => k7a x y (by omega) (by omega)) (fun q y q0 q1 => ?_), fun q q0 q1 => by have := hadr q q0 q1; omega⟩
              have := hadr q q0 q1
              exact k7a _ y (by omega) (by omega)
            · have hlt : (k' : Int) < σ 70 f := by omega
              refine c_r1_keep (s12 k' hlt) s2 s7b cF.1 (fun x y hxy => b7 x y ?_ ?_) b6 hg2 (by rw [v7]; exact h07) v4 (by rw [k74 _ (by omega)]; exact K24 _) (fun x y x1 x2 x4 x5 x6 x7 => by rw [k7a x y x4 x7]; exact cF.2.1 x y x1 (by omega) (by omega) x4 x5 x6)
              · rcases hxy with z | z
                · unfold h_own; omega
                · unfold r_own at z; unfold h_own; omega
              · rcases hxy with z | z
                · omega
                · unfold r_own at z; omega
          · rw [eG2]
            have t6 : g_at G (fu + 6) (105, 10) := s13.2.1.2
            have m6 : fu + 6 ≠ H fu 8 ∧ fu + 6 ≠ H fu 9 ∧ fu + 6 ≠ H fu 4 := by
              obtain ⟨_, z2, L', z3, z4, _⟩ := s2
              exact ⟨ga_ne t6 z3.2 (by decide), ga_ne t6 z4.2 (by decide), ga_ne t6 s7b (by decide)⟩
            exact c_fk_eq s13 (by rw [k7f 5 (by decide)]; exact fuf 5 (by decide) (by decide) (by decide)) (by rw [k7f 6 (by decide)]; exact fuf 6 (by decide) (by decide) (by decide)) (by rw [k7f 10 (by decide)]; exact fuf 10 (by decide) (by decide) (by decide)) (fun y => by rw [k7a _ _ (by omega) m6.2.2]; exact cF.2.1 _ _ (ga_lt t6) (by omega) (by omega) (by omega) m6.1 m6.2.1)
        have tk7 : c_tk t n s j H7 := c_tk_eq tk2 (fun a y ha => k7a a y (by omega) (by omega))
        have pt7 : pot H7 G2 fu = pot K2 G2 fu := by unfold pot; rw [v7, v8]
        refine ih j (k + 1) σ2 g2 H7 G2 (by omega) tk7 fs7 (by rw [b5, hk]; omega) b3 b4 d1 d2 (by omega) (by omega) (fun j2 σ3 K3 G3 g3 he3 tk3 fs3 cB3 hg3 k73 hpot3 => hok j2 σ3 K3 G3 g3 he3 tk3 fs3 (c_B_tr hB7 cB3) ⟨fun a y a0 a1 hy => ?_, fun y y0 y1 => ?_⟩ (by omega) (by omega)) (fun q K3 G3 he3 hb hz => hfl q K3 G3 he3 ⟨hb.1, hb.2.1, c_B_tr hB7 hb.2.2⟩ (by omega))
        · rw [hg3.1 a y a0 a1 (by omega)]; exact hg2.1 a y a0 a1 hy
        · rw [hg3.2 y y0 (by omega)]; exact hg2.2 y y0 y1
      rw [hk] at main
      refine ⟨fun hz => main 1 (by rw [decide_eq_true hz]; rfl), fun hz => main 0 (by rw [decide_eq_false hz]; rfl)⟩
end CRS
