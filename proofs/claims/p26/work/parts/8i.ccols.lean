section CTC
variable {t : Int → Int} {n s m : Nat} {ru fu : Int} {H : e3_H} {G : e3_G} {σ0 g R0 : e3_H} {ic : Nat} {σc gc Kc : e3_H} {Gc : e3_G} {l : List Int} {li la : Int}
theorem c_tp_s {K2 : e3_H} (h : c_tp t n s m ru fu H G σ0 g R0 ic σc gc Kc Gc l li la) (a : c_tk t n s (ic + 1) K2) (b : x_C Kc K2) : c_tp t n s m ru fu H G σ0 g R0 (ic + 1) σc gc K2 Gc l li la := by
  obtain ⟨o1, ⟨o2, o2b, o2c, o2d⟩, ⟨o3, o4, o5, o6, o7, o7b⟩, ⟨o8, o9⟩, ⟨o10, o11⟩, o12, o13, ⟨o14, o15, o16⟩⟩ := h
  have at2 : ∀ a k : Int, a ≠ 3 → K2 a k = Kc a k := fun a k ha => b.1 a k (by simp only [List.mem_cons, List.not_mem_nil, or_false]; exact ha)
  have hd := c_M_ad o1
  have e7 : K2 fu 7 = Kc fu 7 := at2 _ _ (by omega)
  have hgr : ∀ a k : Int, 0 ≤ a → a ≤ 2 → k < σc 40 16 → gc a k = gc a k := fun _ _ _ _ _ => rfl
  have er : ∀ k, K2 ru k = Kc ru k := fun k => at2 _ _ (by omega)
  refine ⟨c_M_s o1 a b, ⟨c_F_C o2 (by omega) b, o2b, o2c, ?_⟩, ⟨p_inv_le o3 (by omega), o4, by omega, o6, o7, o7b⟩, ⟨fun q q0 q1 => ?_, o9⟩, ⟨?_, o11⟩, ?_, o13, ⟨?_, fun k k2 k3 k4 k6 => by rw [er]; exact o15 k k2 k3 k4 k6, fun j k j2 j6 => by rw [at2 _ _ (by omega)]; exact o16 j k j2 j6⟩⟩
  · unfold c_sk at o2d ⊢
    rw [er, er, er, er, er, er]
    exact o2d
  · rw [e7]
    refine ⟨c_pt_keep (o8 q q0 q1).1 ⟨[], by rw [List.append_nil]⟩ (fun _ _ _ => rfl) (fun _ _ _ => rfl) (by omega) hgr (fun _ _ _ => rfl) (by omega) q1 (by omega) (fun k => at2 _ _ (by have := (o8 q q0 q1).1.1.1; omega)), (o8 q q0 q1).2⟩
  · rw [er]
    refine chn_eq l _ (fun c hc => ?_) o10
    obtain ⟨q, q0, q1, q2⟩ := o11 c hc
    exact at2 _ _ (by have := (o8 q q0 q1).1.1.1; omega)
  · rw [er]; exact o12
  · rw [wys_eq (H := Kc) l 1 (fun c hc => ?_)]
    · exact o14
    · obtain ⟨q, q0, q1, q2⟩ := o11 c hc
      exact at2 _ _ (by have := (o8 q q0 q1).1.1.1; omega)
theorem c_tp_3 {v : Int} (h : c_tp t n s m ru fu H G σ0 g R0 ic σc gc Kc Gc l li la) : c_tp t n s m ru fu H G σ0 g (e3_up (e3_up R0 0 0 1) ru 3 v) ic σc gc (e3_up Kc ru 3 v) Gc l li la := by
  obtain ⟨o1, ⟨o2, o2b, o2c, o2d⟩, ⟨o3, o4, o5, o6, o7, o7b⟩, ⟨o8, o9⟩, ⟨o10, o11⟩, o12, o13, ⟨o14, o15, o16⟩⟩ := h
  have kne : ∀ b k : Int, ¬ (b = ru ∧ k = 3) → (e3_up Kc ru 3 v) b k = Kc b k := fun b k hz => e3_up_ne hz
  have hd := c_M_ad o1
  have e7 : (e3_up Kc ru 3 v) fu 7 = Kc fu 7 := kne _ _ (by omega)
  have hgr : ∀ a k : Int, 0 ≤ a → a ≤ 2 → k < σc 40 16 → gc a k = gc a k := fun _ _ _ _ _ => rfl
  refine ⟨c_M_ru o1 (by omega), ⟨c_F_up o2 o2c (by omega), o2b, o2c, ?_⟩, ⟨o3, o4, o5, o6, o7, o7b⟩, ⟨fun q q0 q1 => ?_, o9⟩, ⟨?_, o11⟩, ?_, o13, ⟨?_, fun k k2 k3 k4 k6 => ?_, fun j k j2 j6 => ?_⟩⟩
  · unfold c_sk at o2d ⊢
    rw [kne _ _ (by omega), kne _ _ (by omega), kne _ _ (by omega), kne _ _ (by omega), kne _ _ (by omega), kne _ _ (by omega)]
    exact o2d
  · rw [e7]
    have hpa := c_M_pa o1 (o8 q q0 q1).1.1.2.1
    refine ⟨c_pt_keep (o8 q q0 q1).1 ⟨[], by rw [List.append_nil]⟩ (fun _ _ _ => rfl) (fun _ _ _ => rfl) (by omega) hgr (fun _ _ _ => rfl) (by omega) q1 (by omega) (fun k => kne _ _ (by omega)), (o8 q q0 q1).2⟩
  · rw [kne _ _ (by omega)]
    exact chn_eq l _ (fun c hc => kne _ _ (by omega)) o10
  · rw [kne _ _ (by omega)]; exact o12
  · rw [wys_eq (H := Kc) l 1 (fun c hc => kne _ _ (by omega))]; exact o14
  · by_cases hz : k = 3
    · subst hz; rw [e3_up_self, e3_up_self]
    · rw [e3_up_ne (fun z => hz z.2), e3_up_ne (fun z => hz z.2), e3_up_ne (fun z => by omega)]; exact o15 k k2 (Or.inl hz) k4 k6
  · rw [e3_up_ne (fun z => by omega), e3_up_ne (fun z => by omega), e3_up_ne (fun z => by omega)]; exact o16 j k j2 j6
/-- what the class keeps of a FUNCTION's columns -/
def c_fc (fu : Int) (cols : Nat) (S : Nat → Int) (g H : e3_H) (G : e3_G) : Prop := H fu 1 = cols ∧ (139 ≤ H fu 2 ∧ g_at G (H fu 2) (0, 3)) ∧ cols ≤ 3 ∧ ∀ c : Nat, c < cols → H (H fu 2) c = S c ∧ (c : Int) < H fu 7 ∧ g 3 c = (c : Int) + 1
theorem cR_cols {Q : Int → e3_H → e3_G → Prop} {f muI P P7 : Int} {mu : Bool} {cols i0 : Nat} (hmu : muI = if mu = true then 1 else 0) (hP : PatOK t n s m ru fu 7 0 9) (hfc : c_fc fu cols (fun c => σ0 69 (3 * f + c)) g H G) (hpl : c_pl H G fu (g 3)) (hS : ∀ c : Nat, c < cols → 0 ≤ σ0 69 (3 * f + c) ∧ σ0 69 (3 * f + c) < 3 + m) :
    ∀ (rem c ic : Nat) (σc gc Kc : e3_H) (Gc : e3_G) (l : List Int) (li la : Int), c + rem = cols → c_tp t n s m ru fu H G σ0 g R0 ic σc gc Kc Gc l li la → σc 69 = σ0 69 → (c = 0 ↔ li = -4) → (c ≠ 0 → gc 1 li = c) → (Kc fu 7 ≤ (ic : Int) + 1 ∧ 2 * Kc fu 7 ≤ 2 * P7 + ((ic : Int) - i0)) → i0 ≤ ic → pot Kc Gc fu ≤ P + 60 * ((ic : Int) - i0) →
      (∀ j σ2 K2 G2 g2 l2 li2 la2 W, a_cols t n f mu rem c li ic σc = .inr (j, σ2) → c_tp t n s m ru fu H G σ0 g (e3_up (e3_up R0 0 0 1) ru 3 W) j σ2 g2 K2 G2 l2 li2 la2 → (cols ≠ 0 → li2 ≠ -4) → c_wy W (σ2 74 (σ0 40 27)) → (K2 fu 7 ≤ (j : Int) + 1 ∧ 2 * K2 fu 7 ≤ 2 * P7 + ((j : Int) - i0)) → i0 ≤ j → pot K2 G2 fu ≤ P + 60 * ((j : Int) - i0) → (x_ty t n j ≠ 44 → Q 1 K2 G2) ∧ (x_ty t n j = 44 → ∀ K3, c_bF fu (x_sp t n j) H G K3 G2 → gz G2 ≤ P + 128 + 60 * ((s : Int) - i0 + 1) → Q 0 K3 G2)) →
      (∀ q K2 G2, a_cols t n f mu rem c li ic σc = .inl q → c_bF fu q H G K2 G2 → gz G2 ≤ P + 128 + 60 * ((s : Int) - i0 + 1) → Q 0 K2 G2) →
      wR_readPatterns_4 Q (rem + 1) muI la c Kc Gc := by
  obtain ⟨hc1, ⟨hc2, hc3⟩, hc4, hc5⟩ := hfc
  intro rem
  induction rem with
  | zero =>
    intro c ic σc gc Kc Gc l li la hcr htp h69 hcl hcode h7 hii hpot hok hfl
    obtain ⟨o1, ⟨o2, o2b, o2c, o2d⟩, ⟨o3, o4, o5, o6, o7, o7b⟩, ⟨o8, o9⟩, ⟨o10, o11⟩, o12, o13, ⟨o14, o15, o16⟩⟩ := id htp
    have hd := c_M_ad o1
    have e14 : Kc 14 6 = fu := o1.2.2.2.2
    have e1 : Kc fu 1 = cols := by rw [o2.2.2.2.2.1 1 (by decide) (by decide) (by decide)]; exact hc1
    have obf := ga_ob (c := 8) o1.2.2.2.1.2.1
    have obr := ga_ob (c := 9) o2d.2.1
    have hru : Kc 14 7 = ru := o1.2.2.1.1
    unfold wR_readPatterns_4
    rw [e14, e1, hru]
    refine ⟨obf, brF (by omega) ⟨obr, ⟨l.length + 1, cA_chainWays l 1 _ o10 (fun c hc => ?_) (by omega) (by omega) ⟨obr, ?_⟩⟩⟩⟩
    · obtain ⟨q', q0, q1, q2⟩ := o11 c hc
      have hpt := (o8 q' q0 q1).1
      rw [← q2]
      exact ⟨by have := hpt.1.1; omega, hpt.1.2.1, hpt.2.2.2.2.1.1, hpt.2.2.2.2.1.2⟩
    · intro H9 e9
      have tp9 := c_tp_3 (v := wys Kc 1 l) htp
      rw [← e9] at tp9
      have u3 : H9 ru 3 = wys Kc 1 l := by rw [e9, e3_up_self]
      have u7 : H9 fu 7 = Kc fu 7 := by rw [e9, e3_up_ne (by omega)]
      have u8 : H9 fu 8 = Kc fu 8 := by rw [e9, e3_up_ne (by omega)]
      have up : pot H9 Gc fu = pot Kc Gc fu := by unfold pot; rw [u7, u8]
      have hjs : ic < s := o1.1.2.2.2.2.2.2.1
      have hgz := gz_pot o1
      obtain ⟨f1, f2⟩ := hok ic σc H9 Gc gc l li la _ rfl tp9 (fun z => fun y => by have := hcl.mpr y; omega) o14 (by omega) hii (by omega)
      unfold wR_readPatterns_139 wR_readPatterns_134 wR_readPatterns_139
      rw [(c_now tp9.1.1).1]
      refine ⟨fun h44 => cR_failHere tp9.1.1 (by decide) (fun K5 hf => brT rfl ⟨Or.inl rfl, f2 h44 K5 ⟨hf.1, hf.2.1, c_F_f tp9.2.1.1 (by omega) hf⟩ (by omega)⟩), fun h44 => ⟨Or.inr rfl, f1 h44⟩⟩
  | succ rem ih =>
    intro c ic σc gc Kc Gc l li la hcr htp h69 hcl hcode h7 hii hpot hok hfl
    obtain ⟨o1, ⟨o2, o2b, o2c, o2d⟩, ⟨o3, o4, o5, o6, o7, o7b⟩, ⟨o8, o9⟩, ⟨o10, o11⟩, o12, o13, ⟨o14, o15, o16⟩⟩ := id htp
    have hd := c_M_ad o1
    have e14 : Kc 14 6 = fu := o1.2.2.2.2
    have e1 : Kc fu 1 = cols := by rw [o2.2.2.2.2.1 1 (by decide) (by decide) (by decide)]; exact hc1
    have obf := ga_ob (c := 8) o1.2.2.2.1.2.1
    have hjs : ic < s := o1.1.2.2.2.2.2.2.1
    have hgz := gz_pot o1
    have main : ∀ (i2 : Nat) (K2 : e3_H), i2 = (if c = 0 then ic else ic + 1) → (c = 0 ∨ x_ty t n ic = 44) → c_tp t n s m ru fu H G σ0 g R0 i2 σc gc K2 Gc l li la → K2 fu 7 = Kc fu 7 → K2 fu 8 = Kc fu 8 → wR_readPatterns_28 Q (fun l1 l2 l3 H G => wR_readPatterns_4 Q (rem + 1) l1 l2 l3 H G) muI la c K2 Gc := by
      intro i2 K2 ei2 hcm tp2 g7 g8
      obtain ⟨q1, ⟨q2, q2b, q2c, q2d⟩, ⟨q3, q4, q5, q6, q7, q7b⟩, ⟨q8, q9⟩, ⟨q10, q11⟩, q12, q13, ⟨q14, q15, q16⟩⟩ := id tp2
      have p14 : K2 14 6 = fu := q1.2.2.2.2
      have hru : K2 14 7 = ru := q1.2.2.1.1
      have p2 : K2 fu 2 = H fu 2 := q2.2.2.2.2.1 2 (by decide) (by decide) (by decide)
      have hne : H fu 2 ≠ fu ∧ H fu 2 ≠ H fu 8 ∧ H fu 2 ≠ H fu 9 := by
        obtain ⟨y1, y2, L, y3, y4, y5, y6, _⟩ := hpl
        refine ⟨ga_ne hc3 y2 (by decide), fun z => ?_, fun z => ?_⟩
        · rw [z] at hc3
          have := (Prod.mk.inj (ga_eq hc3 y3.2)).2
          omega
        · rw [z] at hc3
          have := (Prod.mk.inj (ga_eq hc3 y4.2)).2
          omega
      have hlt := ga_lt hc3
      have psort : K2 (H fu 2) c = σ0 69 (3 * f + c) := by rw [q2.2.1 _ c hlt (by omega) (by omega) hne.1 hne.2.1 hne.2.2]; exact (hc5 c (by omega)).1
      have gH2 : g_at Gc (H fu 2) (0, 3) := by obtain ⟨E, rfl⟩ := q2.1; exact ga_app hc3
      have hs := hS c (by omega)
      have ept : pot K2 Gc fu = pot Kc Gc fu := by unfold pot; rw [g7, g8]
      have h07 := q2.2.2.2.2.2.2.2
      have hgc : gc 3 (c : Int) = (c : Int) + 1 := by rw [q13.2 c (by omega) (hc5 c (by omega)).2.1]; exact (hc5 c (by omega)).2.2
      have ei3 : (i2 : Int) ≤ ic + 1 ∧ ic ≤ i2 := by rw [ei2]; split <;> omega
      have hap : a_cols t n f mu (rem + 1) c li ic σc = (match a_pat t n 7 (σ0 69 (3 * f + c)) 0 (mu && decide (c = 0)) i2 σc with
          | .inl q => .inl q
          | .inr (j, σ2, p) => a_cols t n f mu rem (c + 1) p j (a_col1 σ2 c li p)) := by
        conv => lhs; unfold a_cols
        rw [if_neg (by omega), ← ei2, h69]
        rfl
      rw [hap] at hok hfl
      have e53 : ∀ y : Int, (y = if (mu && decide (c = 0)) = true then 1 else 0) → wR_readPatterns_53 Q (fun l1 l2 l3 H G => wR_readPatterns_4 Q (rem + 1) l1 l2 l3 H G) muI la c y 0 c (σ0 69 (3 * f + c)) K2 Gc := by
        intro y hy
        unfold wR_readPatterns_53
        refine hP (σ0 69 (3 * f + c)) c 1 (mu && decide (c = 0)) y i2 σc gc K2 Gc _ hy q1 q3 (by rw [q7]; exact q4) q5 (by omega) hs ⟨by omega, by have := (hc5 c (by omega)).2.1; omega⟩ (fun j σ3 q K3 G3 g3 he hk => ?_) (fun q K3 G3 he hb hz => brT (by decide) (hfl q K3 G3 (by rw [he]) ⟨hb.1, hb.2.1, c_F_E q2 q2c q2b (by have := q2d.2.2.1.1; omega) hb.2.2⟩ (by omega)))
        obtain ⟨b1, b2, b3, b4, b5, b6⟩ := a_pat_ok _ _ _ _ _ _ _ _ _ he q3 q5
        have nm3 := (nm_pat (r := σ0 40 27) _ _ _ _ _ _ _ _ _ he q3 q5 hs.1 hs.2 q7 q4).1
        have tp3 := c_tp_go tp2 hk b6 b5 nm3 b4
        rw [he] at hok hfl
        have hlq : li < q := by
          rcases q12 with ⟨y1, y2, y3⟩ | ⟨_, ⟨y2, y3, _⟩, _⟩
          · omega
          · omega
        have gli : li ≠ -4 → g3 1 li = gc 1 li := by
          intro hz
          rcases q12 with ⟨_, y2, _⟩ | ⟨_, ⟨y2, y3, _⟩, _⟩
          · exact absurd y2 hz
          · exact hk.2.2.2.1.1 1 li (by omega) (by omega) y3
        have hqc : g3 1 q = (c : Int) + 1 := by rw [hk.2.2.2.2.1]; exact hgc
        have tp4 := c_tp_link (q := q) (c := c) tp3 (by omega) hlq hk.2.2.2.2.2.2.1 hcl (by
          rw [hqc]
          by_cases hz : li = -4
          · rw [if_pos hz]; have := hcl.mpr hz; omega
          · rw [if_neg hz, gli hz, hcode (fun z => hz (hcl.mp z))]) hk.2.2.2.2.2.1
        have x69 : (a_col1 σ3 c li q) 69 = σ0 69 := by
          funext y
          unfold a_col1 a_mulr
          rw [e3_up_ne (by omega)]
          split <;> rw [e3_up_ne (by omega), b6.2.2.1 69 (by omega) (by omega), h69]
        have ga3 := (tp3.2.2.2.1.1 q (by omega) (by omega)).1.1
        have k8 := hk.2.2.2.2.2.2.2.1
        have k9 := hk.2.2.2.2.2.2.2.2
        have hdm := c_M_ad tp3.1
        have lac : la < 0 ∨ g_at G3 la (110, 10) := by
          rcases tp3.2.2.2.2.2.1 with ⟨_, _, y3⟩ | ⟨_, ⟨y2, y3, y4, _⟩, _⟩
          · left; omega
          · right; rw [← y4]; exact (tp3.2.2.2.1.1 li y2 y3).1.1.2.1
        have go : ∀ K4 : e3_H, K4 = (if la < 0 then e3_up K3 ru 2 (g3 0 q) else e3_up K3 la 8 (g3 0 q)) → wR_readPatterns_87 Q (fun l1 l2 l3 H G => wR_readPatterns_4 Q (rem + 1) l1 l2 l3 H G) muI c (g3 0 q) K4 G3 := by
          intro K4 eK4
          rw [← eK4] at tp4
          have v7 : K4 fu 7 = K3 fu 7 := by
            rw [eK4]
            by_cases hz : la < 0
            · rw [if_pos hz, e3_up_ne (by omega)]
            · rw [if_neg hz, e3_up_ne (by have := c_M_pa tp3.1 (lac.resolve_left hz); omega)]
          have v8 : K4 fu 8 = K3 fu 8 := by
            rw [eK4]
            by_cases hz : la < 0
            · rw [if_pos hz, e3_up_ne (by omega)]
            · rw [if_neg hz, e3_up_ne (by have := c_M_pa tp3.1 (lac.resolve_left hz); omega)]
          have vp : pot K4 G3 fu = pot K3 G3 fu := by unfold pot; rw [v7, v8]
          unfold wR_readPatterns_87
          rw [w_p1 (by omega)]
          exact ih (c + 1) j _ g3 K4 G3 _ q (g3 0 q) (by omega) tp4 x69 (by omega) (fun _ => by rw [hqc]; omega) (by omega) (by omega) (by omega) hok hfl
        have hr3 : K3 14 7 = ru := tp3.1.2.2.1.1
        refine brF (by have := ga3.1; omega) ⟨fun hz => ?_, fun hz => ⟨ga_ob (c := 10) (lac.resolve_left hz), fun H6 e6 => go H6 (by rw [if_neg hz]; exact e6)⟩⟩
        rw [hr3]
        exact ⟨ga_ob (c := 9) tp3.2.1.2.2.2.2.1, fun H4 e4 => go H4 (by rw [if_pos hz]; exact e4)⟩
      unfold wR_readPatterns_28 wR_readPatterns_52
      rw [p14, p2, psort]
      refine ⟨ga_ob (c := 8) q1.2.2.2.1.2.1, ga_oa gH2 (by omega) (by omega), ?_⟩
      cases hm : mu with
      | false => exact brT (by rw [hmu, hm]; rfl) (e53 0 (by rw [hm]; rfl))
      | true =>
        refine brF (by rw [hmu, hm]; decide) ⟨fun hz => ?_, fun hz => e53 0 ?_⟩
        · have hc0 : c = 0 := by omega
          have := e53 1 (by rw [hm, decide_eq_true hc0]; rfl)
          exact this
        · rw [hm, decide_eq_false (show ¬ c = 0 by omega)]; rfl
    unfold wR_readPatterns_4
    rw [e14, e1]
    refine ⟨obf, brT (by omega) ⟨fun hz => ?_, fun hz => main ic Kc (by rw [if_pos (by omega)]) (Or.inl (by omega)) htp rfl rfl⟩⟩
    unfold wR_readComma
    rw [(c_now o1.1).1]
    refine ⟨fun hc => cT_stp o1.1 ⟨by omega, by omega⟩ (fun K5 a5 b5 => brF (by decide) ?_), fun hc => cR_failHere o1.1 (by decide) (fun K5 hf => ⟨Or.inl rfl, brT rfl (hfl _ K5 Gc ?_ ⟨hf.1, hf.2.1, c_F_f o2 (by omega) hf⟩ (by omega))⟩)⟩
    · have at5 : ∀ a k : Int, a ≠ 3 → K5 a k = Kc a k := fun a k ha => b5.1 a k (by simp only [List.mem_cons, List.not_mem_nil, or_false]; exact ha)
      exact main (ic + 1) K5 (by rw [if_neg (by omega)]) (Or.inr hc) (c_tp_s htp a5 b5) (at5 _ _ (by omega)) (at5 _ _ (by omega))
    · unfold a_cols
      rw [if_pos ⟨by omega, hc⟩]
end CTC
