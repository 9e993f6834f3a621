theorem up_same (H : e3_H) (a j : Int) : e3_up H a j (H a j) = H := by
  funext b k
  unfold e3_up
  split
  · rename_i h; rw [h.1, h.2]
  · rfl
section CAL2
variable {t : Int → Int} {n s m : Nat} {ru fu : Int} {σ g H : e3_H} {G : e3_G} {fl0 code : Int} {i : Nat} {QQ : Int → e3_H → e3_G → Prop}
/-- what is kept of the first alternative -/
def c_alt (σ : e3_H) (b0 fst : Int) (srt : Nat → Int) (W : Int) : Prop := W = lb (c_bw fst srt) 8 ∧ lb_ok (c_bw fst srt) ∧ (∀ k : Nat, k < 8 → b_bit fst k = true → 0 ≤ srt k) ∧ (∀ k : Nat, k < 8 → b_bit b0 k = true → srt k = σ 58 (8 * σ 40 27 + k)) ∧ (0 ≤ fst ∧ fst < 256)
/-- an alternative is read; then it is compared and hung on -/
theorem cR_alt1 {p s0 b0 : Int} {f d F : Nat} (hR : PatOK t n s m ru fu (f + 1) (d + 1) F) (hd5 : d ≤ 5) (hM0 : c_M t n s i m ru fu σ (g 3) H G) (hp0 : 0 ≤ p) (hs0 : 0 ≤ s0 ∧ s0 < 3 + m) (hb0 : σ 40 31 = b0) (h31 : 0 ≤ b0 ∧ b0 < 256) (hnm0 : nm_inv (σ 40 27) m σ) {k40 : Int → Int → Int → Int → Int → Int → Int → Int → e3_H → e3_G → Prop} {jj ic : Nat} {σc gc Kc : e3_H} {Gc : e3_G} {l : List Int} {li la W sm : Int} (hnf : x_nf t n ic) (hop : c_tk t n s ic Kc ∧ ∀ K1, c_tk t n s (ic + 1) K1 → x_C Kc K1 → c_op t n s m ru fu σ g H G fl0 code p 0 (ic + 1) σc gc K1 Gc l li la) (h46 : σc 46 p = 6) (h47 : σc 47 p = s0) (hjj : (jj = 0 ∧ li = -4) ∨ (jj ≠ 0 ∧ li ≠ -4 ∧ gc 1 li = code)) (hBs : ∀ k : Nat, k < 8 → b_bit b0 k = true → σc 58 (8 * σ 40 27 + k) = σ 58 (8 * σ 40 27 + k)) (h7 : Kc fu 7 ≤ (ic : Int) + 1 ∧ 2 * Kc fu 7 ≤ 2 * H fu 7 + ((ic : Int) - i)) (h07 : H fu 7 ≤ Kc fu 7) (hii : i ≤ ic) (hpot : pot Kc Gc fu ≤ pot H G fu + 60 * ((ic : Int) + 1 - i) - 30)
    (hfl : ∀ q K2 G2, a_pat t n (f + 1) s0 (d + 1) (decide (jj = 6)) (ic + 1) (e3_up σc 40 31 b0) = .inl q → c_bad ru fu q H G K2 G2 → gz G2 ≤ pot H G fu + 128 + 60 * ((s : Int) - i + 1) → QQ 0 K2 G2)
    (hgo : ∀ j σ3 q K3 G3 g3, a_pat t n (f + 1) s0 (d + 1) (decide (jj = 6)) (ic + 1) (e3_up σc 40 31 b0) = .inr (j, σ3, q) → ic + 1 < j → c_op t n s m ru fu σ g H G fl0 code p 0 j (a_into σ3 p li q) g3 (if la < 0 then e3_up K3 G.length 7 (g3 0 q) else e3_up K3 la 8 (g3 0 q)) G3 (l ++ [g3 0 q]) q (g3 0 q) → (la < 0 ∨ g_at G3 la (110, 10)) → g_at G3 G.length (110, 10) → g3 1 q = code → c_wy (K3 (g3 0 q) 9) (σ3 55 q) → 0 ≤ g3 0 q → σ3 55 p = σc 55 p → σ3 46 p = 6 → σ3 47 p = s0 → (∀ k : Nat, k < 8 → b_bit b0 k = true → a_into σ3 p li q 58 (8 * σ 40 27 + k) = σ 58 (8 * σ 40 27 + k)) → nm_inv (σ 40 27) m σ3 → K3 ru 6 = lb (c_nm (a_into σ3 p li q)) 8 → K3 14 7 = ru → K3 G.length 9 = Kc G.length 9 → ((if la < 0 then e3_up K3 G.length 7 (g3 0 q) else e3_up K3 la 8 (g3 0 q)) fu 7 ≤ (j : Int) ∧ 2 * (if la < 0 then e3_up K3 G.length 7 (g3 0 q) else e3_up K3 la 8 (g3 0 q)) fu 7 + 1 ≤ 2 * H fu 7 + ((j : Int) - i)) → pot (if la < 0 then e3_up K3 G.length 7 (g3 0 q) else e3_up K3 la 8 (g3 0 q)) G3 fu ≤ pot H G fu + 60 * ((j : Int) - i) - 30 → H fu 7 ≤ (if la < 0 then e3_up K3 G.length 7 (g3 0 q) else e3_up K3 la 8 (g3 0 q)) fu 7 → (139 ≤ fu) →
      (((jj : Int) = 0 → (e3_ob G3 9 (K3 14 7)) ∧ (wR_readAlternatives_133 (wR_readPattern F) QQ k40 G.length d (x_sp t n i) (lb (c_nm σ) 8) sm la jj (g3 0 q) (K3 (K3 14 7) 6) K3 G3)) ∧ (¬ ((jj : Int) = 0) → (wR_readAlternatives_133 (wR_readPattern F) QQ k40 G.length d (x_sp t n i) (lb (c_nm σ) 8) sm la jj (g3 0 q) W K3 G3)))) :
    wR_readAlternatives_64 (wR_readPattern F) QQ k40 G.length d (x_sp t n i) (lb (c_nm σ) 8) W sm la jj Kc Gc := by
  have hd := c_M_ad hM0
  unfold wR_readAlternatives_64
  refine cT_stp hop.1 hnf (fun K1 a1 b1 => ?_)
  have op1 := hop.2 K1 a1 b1
  have at1 : ∀ a k : Int, a ≠ 3 → K1 a k = Kc a k := fun a k ha => b1.1 a k (by simp only [List.mem_cons, List.not_mem_nil, or_false]; exact ha)
  obtain ⟨o1, o2, ⟨o3, o4, o5, o6, o7, o8⟩, ⟨o9, o10, o11, o12, o13, o14⟩, o15, ⟨o16, o17⟩, ⟨o18, o19⟩, o20, ⟨o21, o22, o23⟩, o24⟩ := id op1
  have e27 : σc 40 27 = σ 40 27 := o3.2.1 27 (by omega) (by omega)
  have hru : K1 14 7 = ru := o1.2.2.1.1
  rw [hru]
  refine ⟨ga_ob (c := 9) o1.2.2.1.2.2.1, ?_⟩
  intro H4 e4
  have c56 : σ 56 (σ 40 27) ≤ σc 56 (σ 40 27) := o3.2.2.2.2.2.2.1
  have x27 : (e3_up σc 40 31 b0) 40 27 = σ 40 27 := by rw [e3_up_ne (by omega)]; exact e27
  have nm4 : nm_inv (σ 40 27) m (e3_up σc 40 31 b0) := by
    refine ⟨fun k hk hb => ?_, fun k hk => ?_⟩
    · rw [e3_up_self] at hb
      rw [e3_up_ne (by omega)]
      have := hnm0.1 k hk (by rw [hb0]; exact hb)
      omega
    · rw [e3_up_ne (by omega)] at hk
      rw [e3_up_ne (by omega)]
      exact o5.2 k hk
  have op2 := c_op_rl (σ2 := e3_up σc 40 31 b0) (v := lb (c_nm σ) 8) op1 ⟨hd.1, hd.2.1, hd.2.2.1, by omega, by omega⟩ (fun a k ha hk => e3_up_ne hk) (lb_congr (fun k hk => by
    unfold c_nm
    rw [e3_up_self, hb0, x27]
    by_cases hb : b_bit b0 k = true
    · rw [if_pos hb, if_pos hb, e3_up_ne (by omega), hBs k hk hb]
    · rw [if_neg hb, if_neg hb])) (p_up31 o4 h31) nm4 (fr_31 o3)
  rw [← e4] at op2
  have f4 : ∀ a k : Int, a ≠ 3 → a ≠ ru → H4 a k = Kc a k := fun a k h1 h2 => by rw [e4, e3_up_ne (by omega)]; exact at1 a k h1
  have hra : (G.length : Int) ≠ ru := by omega
  have ga0 : g_at Gc (G.length : Int) (110, 10) := by rw [← o10]; exact o9.2.1
  refine ⟨ga_ob (c := 10) ga0, ga_ob (c := 10) ga0, ?_⟩
  have p9 := op2.2.2.2.1
  obtain ⟨⟨_, _, _, pl0, pl1, pl2, _⟩, p10, _⟩ := id p9
  rw [p10] at pl0 pl1 pl2
  have s47 : H4 G.length 1 = s0 := by rw [pl0, e3_up_ne (by omega)]; exact h47
  have hcode : gc 3 (H4 G.length 2) = code := by rw [pl2]; exact o22
  rw [s47, w_p1 (by omega)]
  have e7 : H4 fu 7 = Kc fu 7 := f4 _ _ (by omega) (by omega)
  have e8 : H4 fu 8 = Kc fu 8 := f4 _ _ (by omega) (by omega)
  have ept : pot H4 Gc fu = pot Kc Gc fu := by unfold pot; rw [e7, e8]
  have main : ∀ muI : Int, (muI = if decide (jj = 6) = true then 1 else 0) → wR_readAlternatives_104 (wR_readPattern F) QQ k40 G.length d (x_sp t n i) (lb (c_nm σ) 8) W sm la jj muI ((d + 1 : Nat) : Int) (H4 G.length 2) s0 H4 Gc := by
    intro muI hmu
    unfold wR_readAlternatives_104
    refine c_op_child hR hM0 hmu hp0 op2 hs0 pl1 (by omega) (by omega) ?_ (fun j σ3 q K3 G3 g3 he hq hij op3 hla hga0 hg1 hwy hold hrows h7j hlow hf7 hpt => brF (by have := c_op_last op3; omega) ?_) (fun q K3 G3 he hb hz => brT (by decide) (hfl q K3 G3 he hb (by omega)))
    · rw [hcode, e3_up_ne (by omega), h46, if_pos rfl]
      rcases hjj with ⟨z1, z2⟩ | ⟨z1, z2, z3⟩
      · rw [if_pos z2]
      · rw [if_neg z2, z3]; omega
    · have hp7 : p < (e3_up σc 40 31 b0) 40 16 := by rw [e3_up_ne (by omega)]; exact o7
      have rr : ∀ a : Int, 46 ≤ a → a ≤ 55 → σ3 a p = σc a p := fun a a1 a2 => by rw [hrows a p a1 a2 hp7, e3_up_ne (by omega)]
      have np := nm_pat (r := σ 40 27) _ _ _ _ _ _ _ _ _ he (p_up31 o4 h31) (by rw [e3_up_ne (by omega)]; exact o6) hs0.1 hs0.2 x27 nm4
      have c3 := op3.1.2.2.1
      have hpa := c_M_pa op3.1 hga0
      have K4ru : ∀ k : Int, (if la < 0 then e3_up K3 G.length 7 (g3 0 q) else e3_up K3 la 8 (g3 0 q)) ru k = K3 ru k := by
        intro k
        by_cases hz : la < 0
        · rw [if_pos hz, e3_up_ne (by omega)]
        · rw [if_neg hz]
          have := c_M_pa op3.1 (hla.resolve_left hz)
          rw [e3_up_ne (by omega)]
      have K6 : K3 ru 6 = lb (c_nm (a_into σ3 p li q)) 8 := by rw [← K4ru 6]; exact c3.2.2.2.2.2.2.2.1
      have K7 : K3 14 7 = ru := by rw [← hlow 14 7 (by omega)]; exact c3.1
      have K9 : K3 G.length 9 = Kc G.length 9 := by
        rw [(hold G.length 9 ⟨p, by omega, hp7, o10⟩).1]
        exact f4 _ _ (by omega) hra
      refine hgo j σ3 q K3 G3 g3 he hij op3 hla hga0 (by rw [hg1]; exact hcode) hwy (by have := c_op_last op3; omega) (rr 55 (by omega) (by omega)) (by rw [rr 46 (by omega) (by omega)]; exact h46) (by rw [rr 47 (by omega) (by omega)]; exact h47) (fun k hk hb => ?_) np.1 K6 K7 K9 (by rw [hf7]; omega) (by omega) ?_ (by omega)
      · rw [a_into_at 58 _ (by omega) (by omega) (by omega), np.2.2.2.1 k hk (by rw [e3_up_self]; exact hb), e3_up_ne (by omega)]
        exact hBs k hk hb
      · exact op3.2.1.2.2.2.2.2.2.2.2.1
  refine ⟨fun hz => main 1 (by rw [decide_eq_true (show jj = 6 by omega)]; rfl), fun hz => main 0 (by rw [decide_eq_false (show ¬ jj = 6 by omega)]; rfl)⟩
theorem cR_alts {p s0 b0 : Int} {f d F : Nat} (hR : PatOK t n s m ru fu (f + 1) (d + 1) F) (hd5 : d ≤ 5) (hM0 : c_M t n s i m ru fu σ (g 3) H G) (hp0 : 0 ≤ p) (hs0 : 0 ≤ s0 ∧ s0 < 3 + m) (hb0 : σ 40 31 = b0) (h31 : 0 ≤ b0 ∧ b0 < 256) (hnm0 : nm_inv (σ 40 27) m σ) :
    ∀ (rem jj ic : Nat) (σc gc Kc : e3_H) (Gc : e3_G) (l : List Int) (li la fst : Int) (srt : Nat → Int) (un : Bool) (W sm : Int), jj + rem = 6 → x_nf t n ic → (c_tk t n s ic Kc ∧ ∀ K1, c_tk t n s (ic + 1) K1 → x_C Kc K1 → c_op t n s m ru fu σ g H G fl0 code p 0 (ic + 1) σc gc K1 Gc l li la) → σc 46 p = 6 → σc 47 p = s0 → ((jj = 0 ∧ li = -4 ∧ Kc G.length 9 = 0 ∧ sm = 1) ∨ (jj ≠ 0 ∧ li ≠ -4 ∧ gc 1 li = code ∧ c_wy (Kc G.length 9) (σc 55 p) ∧ c_alt σ b0 fst srt W ∧ sm = if un = true then 0 else 1)) → (∀ k : Nat, k < 8 → b_bit b0 k = true → σc 58 (8 * σ 40 27 + k) = σ 58 (8 * σ 40 27 + k)) → (Kc fu 7 ≤ (ic : Int) + 1 ∧ 2 * Kc fu 7 ≤ 2 * H fu 7 + ((ic : Int) - i)) → H fu 7 ≤ Kc fu 7 → i ≤ ic → pot Kc Gc fu ≤ pot H G fu + 60 * ((ic : Int) + 1 - i) - 30 →
      (∀ j σ2 p2, a_alts t n (fun mu2 i2 σ2 => a_pat t n (f + 1) s0 (d + 1) mu2 i2 σ2) p (x_sp t n i) b0 (rem + 1) jj li fst srt un (ic + 1) (e3_up σc 40 31 b0) = .inr (j, σ2, p2) → nm_inv (σ 40 27) m σ2 ∧ p_inv σ2 m j ∧ a_fr p σ σ2) →
      (∀ j σ2 p2 K2 G2 g2, a_alts t n (fun mu2 i2 σ2 => a_pat t n (f + 1) s0 (d + 1) mu2 i2 σ2) p (x_sp t n i) b0 (rem + 1) jj li fst srt un (ic + 1) (e3_up σc 40 31 b0) = .inr (j, σ2, p2) → c_ok2 t n s m ru fu i σ g H G fl0 code j σ2 p K2 G2 g2 → g2 0 p = G.length → σ2 54 p = -4 → p_inv σ2 m j → nm_inv (σ 40 27) m σ2 → a_fr p σ σ2 → p < σ2 40 16 → QQ 1 K2 G2) →
      (∀ q K2 G2, a_alts t n (fun mu2 i2 σ2 => a_pat t n (f + 1) s0 (d + 1) mu2 i2 σ2) p (x_sp t n i) b0 (rem + 1) jj li fst srt un (ic + 1) (e3_up σc 40 31 b0) = .inl q → c_bad ru fu q H G K2 G2 → gz G2 ≤ pot H G fu + 128 + 60 * ((s : Int) - i + 1) → QQ 0 K2 G2) →
      wR_readAlternatives_64 (wR_readPattern F) QQ (fun l1 l2 l3 l4 l6 l8 l9 l10 H G => wR_readAlternatives_40 (wR_readPattern F) QQ (rem + 1) l1 l2 l3 l4 l6 l8 l9 l10 H G) G.length d (x_sp t n i) (lb (c_nm σ) 8) W sm la jj Kc Gc := by
  have hd := c_M_ad hM0
  intro rem
  induction rem with
  | zero =>
    intro jj ic σc gc Kc Gc l li la fst srt un W sm hjr hnf hop h46 h47 hjj hBs h7 h07 hii hpot hfin hok hfl
    have hj6 : jj = 6 := by omega
    refine cR_alt1 hR hd5 hM0 hp0 hs0 hb0 h31 hnm0 hnf hop h46 h47 (hjj.imp (fun z => ⟨z.1, z.2.1⟩) (fun z => ⟨z.1, z.2.1, z.2.2.1⟩)) hBs h7 h07 hii hpot (fun q K3 G3 he hb hz => hfl q K3 G3 (by unfold a_alts; rw [he]) hb hz) (fun j σ3 q K3 G3 g3 he => ?_)
    rw [decide_eq_true hj6, a_pat_mu] at he
    cases he
  | succ rem ih =>
    intro jj ic σc gc Kc Gc l li la fst srt un W sm hjr hnf hop h46 h47 hjj hBs h7 h07 hii hpot hfin hok hfl
    have ja : jj ≤ 5 := by omega
    refine cR_alt1 hR hd5 hM0 hp0 hs0 hb0 h31 hnm0 hnf hop h46 h47 (hjj.imp (fun z => ⟨z.1, z.2.1⟩) (fun z => ⟨z.1, z.2.1, z.2.2.1⟩)) hBs h7 h07 hii hpot (fun q K3 G3 he hb hz => hfl q K3 G3 (by unfold a_alts; rw [he]) hb hz) (fun j σ3 q K3 G3 g3 he hij hop4 hla hga0 hcode hwy h9o r55 r46' r47 hBs' nm3 K6 K7 hKa h7j hp4 hf74 hf84 => ?_)
    rw [a_alts_eq (g := fun mu2 i2 σ2 => a_pat t n (f + 1) s0 (d + 1) mu2 i2 σ2) he] at hfin hok hfl
    generalize hτ : a_into σ3 p li q = τ at *
    obtain ⟨o1, o2, ⟨o3, o4, o5, o6, o7, o8⟩, ⟨o9, o10, o11, o12, o13, o14⟩, o15, ⟨o16, o17⟩, ⟨o18, o19⟩, o20, ⟨o21, o22, o23⟩, o24⟩ := id hop4
    have e27 : τ 40 27 = σ 40 27 := o3.2.1 27 (by omega) (by omega)
    have nmτ : nm_inv (τ 40 27) m τ := by rw [e27]; exact o5
    have hl1 := c_op_last hop4
    have ok7 : lb_ok (c_nm τ) := c_nm_ok o4.1.2.1 nmτ
    have sτ : ∀ k : Nat, k < 8 → b_bit (τ 40 31) k = true → 0 ≤ τ 58 (8 * τ 40 27 + k) := fun k hk hb => (nmτ.2 k (nmτ.1 k hk hb)).1
    have hc1 : ((jj : Int) + 1 = 1) ↔ jj = 0 := by omega
    -- the first alternative's bindings behind this one
    have altN : c_alt σ b0 (a_fst ((jj : Int) + 1) τ fst) (a_sr ((jj : Int) + 1) τ srt) (if jj = 0 then K3 ru 6 else W) := by
      unfold a_fst a_sr
      by_cases hz : jj = 0
      · rw [if_pos (hc1.mpr hz), if_pos (hc1.mpr hz), if_pos hz]
        refine ⟨by rw [K6]; rfl, ok7, sτ, fun k hk hb => ?_, o4.2.2.2.2.1⟩
        rw [e27]; exact hBs' k hk hb
      · rw [if_neg (fun z => hz (hc1.mp z)), if_neg (fun z => hz (hc1.mp z)), if_neg hz]
        rcases hjj with y | ⟨y1, y2, y3, y4, y5, y6⟩
        · exact absurd y.1 hz
        · exact y5
    -- behind the ways
    have fin : ∀ sN : Int, (sN = if a_un ((jj : Int) + 1) τ b0 fst srt un = true then 0 else 1) → (a_un ((jj : Int) + 1) τ b0 fst srt un = false → lb (c_nm τ) 8 = lb (c_bw (a_fst ((jj : Int) + 1) τ fst) (a_sr ((jj : Int) + 1) τ srt)) 8) → wR_readAlternatives_158 (wR_readPattern F) QQ (fun l1 l2 l3 l4 l6 l8 l9 l10 H G => wR_readAlternatives_40 (wR_readPattern F) QQ (rem + 1 + 1) l1 l2 l3 l4 l6 l8 l9 l10 H G) G.length d (x_sp t n i) (lb (c_nm σ) 8) (if jj = 0 then K3 ru 6 else W) la jj (g3 0 q) sN K3 G3 := by
      intro sN hsN heq
      unfold wR_readAlternatives_158
      refine ⟨ga_ob (c := 10) hga0, cA_hang hga0 hla ⟨ga_ob (c := 10) hga0, ?_⟩⟩
      generalize hK4 : (if la < 0 then e3_up K3 G.length 7 (g3 0 q) else e3_up K3 la 8 (g3 0 q)) = K4 at *
      have gq := (o16 q hl1.1 hl1.2.1).1.2.1
      have wq := (o16 q hl1.1 hl1.2.1).2.2.2.2
      refine ⟨ga_ob (c := 10) gq, ?_⟩
      have k9q : K4 (g3 0 q) 9 = K3 (g3 0 q) 9 := by rw [← hK4]; split <;> exact e3_up_ne (by omega)
      have k9a : K4 G.length 9 = K3 G.length 9 := by rw [← hK4]; split <;> exact e3_up_ne (by omega)
      have hw1 := hwy.1
      have hold : (jj = 0 ∧ K4 G.length 9 = 0) ∨ (jj ≠ 0 ∧ c_wy (K4 G.length 9) (σc 55 p)) := by
        rw [k9a, hKa]
        rcases hjj with ⟨y1, y2, y3, y4⟩ | ⟨y1, y2, y3, y4, y5, y6⟩
        · exact Or.inl ⟨y1, y3⟩
        · exact Or.inr ⟨y1, y4⟩
      have hsum : 0 ≤ K4 G.length 9 ∧ K4 G.length 9 ≤ 10000 := by
        rcases hold with ⟨_, y⟩ | ⟨_, y⟩
        · omega
        · have := y.1; omega
      have hwN : c_wy (if 10000 < K4 G.length 9 + K4 (g3 0 q) 9 then 10000 else K4 G.length 9 + K4 (g3 0 q) 9) (τ 55 p) := by
        rcases hold with ⟨y0, y⟩ | ⟨y0, y⟩
        · have i55 : τ 55 p = σ3 55 q := by
            rw [← hτ]; unfold a_into
            rcases hjj with ⟨_, y2, _⟩ | ⟨y1, _⟩
            · rw [if_pos y2, e3_up_self]
            · exact absurd y0 y1
          rw [y, Int.zero_add, k9q, if_neg (by omega), i55]
          exact hwy
        · have i55 : τ 55 p = if 1000 < σc 55 p + σ3 55 q then 1000 else σc 55 p + σ3 55 q := by
            rw [← hτ]; unfold a_into
            rcases hjj with ⟨y1, _⟩ | ⟨_, y2, _⟩
            · exact absurd y1 y0
            · rw [if_neg y2, e3_up_self, r46', if_neg (show ¬ (6 : Int) = 5 by decide), r55]
          rw [i55, k9q]
          exact wy_add y hwy
      rw [e3_w32_id (x := K4 G.length 9 + K4 (g3 0 q) 9) (by omega) (by omega)]
      have go : ∀ x8 : Int, x8 = (if 10000 < K4 G.length 9 + K4 (g3 0 q) 9 then 10000 else K4 G.length 9 + K4 (g3 0 q) 9) → ∀ H9, H9 = e3_up K4 G.length 9 x8 → wR_readAlternatives_40 (wR_readPattern F) QQ (rem + 1 + 1) G.length d (x_sp t n i) (lb (c_nm σ) 8) (if jj = 0 then K3 ru 6 else W) sN (g3 0 q) ((jj + 1 : Nat) : Int) H9 G3 := by
        intro x8 hx8 H9 e9
        have op9 := c_op_9 (v := x8) hop4 ⟨hd.1, hd.2.1, hd.2.2.1⟩
        rw [← e9] at op9
        have u9 : H9 G.length 9 = x8 := by rw [e9, e3_up_self]
        have u7 : H9 fu 7 = K4 fu 7 := by rw [e9, e3_up_ne (by omega)]
        have u8 : H9 fu 8 = K4 fu 8 := by rw [e9, e3_up_ne (by omega)]
        have upt : pot H9 G3 fu = pot K4 G3 fu := by unfold pot; rw [u7, u8]
        have hjs : j < s := op9.1.1.2.2.2.2.2.2.1
        have hgz := gz_pot op9.1
        have hw9 : c_wy (H9 G.length 9) (τ 55 p) := by rw [u9, hx8]; exact hwN
        have last : x_ty t n j ≠ 124 → wR_readAlternatives_196 (wR_readPattern F) QQ (x_sp t n i) sN H9 G3 := by
          intro hn124
          rw [if_neg hn124] at hfin hok hfl
          unfold wR_readAlternatives_196 wR_readAlternatives_224 wR_readAlternatives_220 wR_readAlternatives_225
          refine cR_expect op9.1.1 (by decide) (fun h41 K5 a5 b5 => brF (by decide) ?_) (fun h41 K5 hf => brT rfl ⟨Or.inl rfl, hfl _ K5 G3 (by rw [if_neg h41]) (c_bad_f op9.1 (by omega) op9.2.1 hf) (by omega)⟩)
          rw [if_pos h41] at hfin hok hfl
          have op5 := c_op_s op9 (by omega) a5 b5
          have at5 : ∀ a k : Int, a ≠ 3 → K5 a k = H9 a k := fun a k ha => b5.1 a k (by simp only [List.mem_cons, List.not_mem_nil, or_false]; exact ha)
          have v7 : K5 fu 7 = H9 fu 7 := at5 _ _ (by omega)
          have v8 : K5 fu 8 = H9 fu 8 := at5 _ _ (by omega)
          have vp : pot K5 G3 fu = pot H9 G3 fu := by unfold pot; rw [v7, v8]
          refine ⟨fun h0 => ?_, fun h0 => ⟨Or.inr rfl, ?_⟩⟩
          · have hun : a_un ((jj : Int) + 1) τ b0 fst srt un = true := by
              cases hz : a_un ((jj : Int) + 1) τ b0 fst srt un with
              | true => rfl
              | false => rw [hz, if_neg (by decide)] at hsN; omega
            refine cR_failAt (by decide) (fun K6' hf => brT rfl ⟨Or.inl rfl, hfl _ K6' G3 (by rw [if_pos hun]) (c_bad_f op5.1 (by omega) op5.2.1 hf) ?_⟩)
            omega
          · have hun : a_un ((jj : Int) + 1) τ b0 fst srt un = false := by
              cases hz : a_un ((jj : Int) + 1) τ b0 fst srt un with
              | false => rfl
              | true => rw [hz, if_pos rfl] at hsN; omega
            rw [if_neg (by rw [hun]; decide)] at hfin hok
            obtain ⟨f1, f2, f3⟩ := hfin _ _ _ rfl
            have heq2 := heq hun
            have r6 : K5 ru 6 = lb (c_nm τ) 8 := op5.1.2.2.1.2.2.2.2.2.2.2.1
            generalize hfs : a_fst ((jj : Int) + 1) τ fst = fst' at *
            generalize hsr : a_sr ((jj : Int) + 1) τ srt = srt' at *
            have q31 : a_srt (e3_up τ 40 31 fst') srt' 8 40 31 = fst' := by rw [a_srt_at 8 40 31 (by omega), e3_up_self]
            have q27 : a_srt (e3_up τ 40 31 fst') srt' 8 40 27 = τ 40 27 := by rw [a_srt_at 8 40 27 (by omega), e3_up_ne (by omega)]
            have q58 : ∀ k : Nat, k < 8 → a_srt (e3_up τ 40 31 fst') srt' 8 58 (8 * τ 40 27 + k) = srt' k := by
              intro k hk
              have := a_srt_58 (σ := e3_up τ 40 31 fst') (srt := srt') 8 k hk
              rw [show (e3_up τ 40 31 fst') 40 27 = τ 40 27 from e3_up_ne (by omega)] at this
              exact this
            have hv : K5 ru 6 = lb (c_nm (a_srt (e3_up τ 40 31 fst') srt' 8)) 8 := by
              rw [r6, heq2]
              refine lb_congr (fun k hk => ?_)
              unfold c_bw c_nm
              rw [q31, q27, q58 k hk]
            have op6 := c_op_rl (σ2 := a_srt (e3_up τ 40 31 fst') srt' 8) (v := K5 ru 6) op5 ⟨hd.1, hd.2.1, hd.2.2.1, by omega, by omega⟩ (fun a k ha hk => by rw [a_srt_at 8 a k ha, e3_up_ne hk]) hv f2 f1 f3
            rw [up_same] at op6
            refine hok _ _ _ K5 G3 g3 rfl (c_op_fin op6 ?_ (by omega) (by omega)) o10 ?_ f2 f1 f3 ?_
            · rw [at5 _ _ (by omega), a_srt_at 8 55 p (by omega), e3_up_ne (by omega)]; exact hw9
            · rw [a_srt_at 8 54 p (by omega), e3_up_ne (by omega)]; exact o12
            · rw [a_srt_at 8 40 16 (by omega), e3_up_ne (by omega)]; exact o7
        refine brF (by omega) (brF (by omega) ?_)
        rw [(c_now op9.1.1).1]
        refine ⟨fun h124 => ?_, last⟩
        rw [if_pos h124] at hfin hok hfl
        refine ih (jj + 1) j τ g3 H9 G3 _ q (g3 0 q) _ _ _ _ sN (by omega) ⟨by omega, by omega⟩ ⟨op9.1.1, fun K1 a1 b1 => c_op_s op9 (by omega) a1 b1⟩ ?_ ?_ (Or.inr ⟨by omega, by omega, hcode, hw9, altN, hsN⟩) hBs' (by omega) (by omega) (by omega) (by omega) hfin hok hfl
        · rw [← hτ, a_into_at 46 p (by omega) (by omega) (by omega)]; exact r46'
        · rw [← hτ, a_into_at 47 p (by omega) (by omega) (by omega)]; exact r47
      unfold wJ_min_II wJ_min_II_10
      rw [w_p1 (by omega)]
      exact ⟨fun hz => ⟨ga_ob (c := 10) hga0, fun H9 e9 => go _ (by rw [if_neg (by omega)]) H9 e9⟩, fun hz => ⟨ga_ob (c := 10) hga0, fun H9 e9 => go _ (by split <;> omega) H9 e9⟩⟩
    by_cases hz : jj = 0
    · rw [if_pos hz] at fin
      have hu0 : a_un ((jj : Int) + 1) τ b0 fst srt un = false := by unfold a_un; rw [if_pos (hc1.mpr hz)]
      refine brT (by omega) ⟨by rw [K7]; exact ga_ob (c := 9) o1.2.2.1.2.2.1, ?_⟩
      rw [K7]
      unfold wR_readAlternatives_133
      rcases hjj with ⟨y1, y2, y3, y4⟩ | ⟨y1, _⟩
      · refine brF (by omega) ⟨by rw [K7]; exact ga_ob (c := 9) o1.2.2.1.2.2.1, brT (by rw [K7]) (fin 1 (by rw [hu0]; rfl) (fun _ => ?_))⟩
        unfold a_fst a_sr
        rw [if_pos (hc1.mpr hz), if_pos (hc1.mpr hz)]
        rfl
      · exact absurd hz y1
    · rw [if_neg hz] at fin
      refine brF (by omega) ?_
      unfold wR_readAlternatives_133 wR_readAlternatives_157
      rcases hjj with y | ⟨y1, y2, y3, y4, y5, y6⟩
      · exact absurd y.1 hz
      obtain ⟨w1, w2, w3, w4, w5⟩ := y5
      have hue := un_eq (τ := τ) (b0 := b0) (fst := fst) (srt := srt) o4.2.2.2.2.1 w5 ok7 w2 sτ w3 (fun k hk hb => by rw [w4 k hk hb, e27]; exact (hBs' k hk hb).symm)
      have hcn : ¬ (jj : Int) + 1 = 1 := fun z => hz (hc1.mp z)
      have eun : a_un ((jj : Int) + 1) τ b0 fst srt un = (un || a_unl τ b0 fst srt 8) := by unfold a_un; rw [if_neg hcn]
      have ef : a_fst ((jj : Int) + 1) τ fst = fst := by unfold a_fst; rw [if_neg hcn]
      have es : a_sr ((jj : Int) + 1) τ srt = srt := by unfold a_sr; rw [if_neg hcn]
      rw [eun, ef, es] at fin
      cases hun : un with
      | true =>
        rw [hun] at y6
        refine brT (by rw [y6]; rfl) (fin 0 (by rw [hun]; rfl) (fun h => by rw [hun] at h; cases h))
      | false =>
        rw [hun] at y6
        refine brF (by rw [y6]; decide) ⟨by rw [K7]; exact ga_ob (c := 9) o1.2.2.1.2.2.1, ?_⟩
        rw [K7, K6, w1]
        rw [w1] at fin
        refine ⟨fun he2 => fin 1 ?_ (fun _ => he2), fun he2 => fin 0 ?_ (fun h => ?_)⟩
        · rw [hun, hue.mp he2]; rfl
        · have : a_unl τ b0 fst srt 8 = true := by
            cases hz2 : a_unl τ b0 fst srt 8 with
            | true => rfl
            | false => exact absurd (hue.mpr hz2) he2
          rw [hun, this]; rfl
        · rw [hun, Bool.false_or] at h
          exact absurd (hue.mpr h) he2
end CAL2
