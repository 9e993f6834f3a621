section CKI2
variable {t : Int → Int} {n s m : Nat} {ru fu : Int} {σ g H : e3_H} {G : e3_G} {fl0 code : Int} {i : Nat} {QQ : Int → e3_H → e3_G → Prop}
theorem a_kids_1 {f d : Nat} {p kd : Int} {rem jj ic : Nat} {li : Int} {σc : e3_H} {j : Nat} {σ3 : e3_H} {q : Int} (h : a_pat t n f (σc 45 (4 * kd + jj)) (d + 1) false ic σc = .inr (j, σ3, q)) : a_kids t n (fun s2 i2 σ2 => a_pat t n f s2 (d + 1) false i2 σ2) p kd (rem + 1) jj li ic σc = (if rem = 0 then (if x_ty t n j = 41 then .inr (j + 1, a_into σ3 p li q, p) else .inl (x_sp t n j : Int)) else if x_ty t n j = 44 then a_kids t n (fun s2 i2 σ2 => a_pat t n f s2 (d + 1) false i2 σ2) p kd rem (jj + 1) q (j + 1) (a_into σ3 p li q) else .inl (x_sp t n j : Int)) := by
  conv => lhs; unfold a_kids
  rw [h]
theorem c_op_last {p fk : Int} {ic : Nat} {σc gc Kc : e3_H} {Gc : e3_G} {l : List Int} {b li la : Int} (h : c_op t n s m ru fu σ g H G fl0 code p fk ic σc gc Kc Gc (l ++ [b]) li la) : p < li ∧ li < σc 40 16 ∧ 139 ≤ la := by
  obtain ⟨o1, o2, o3, o4, o15, ⟨o16, o17⟩, o18, o20, o21⟩ := h
  rcases o20 with ⟨z1, _⟩ | ⟨l', z1, z2, z3, z4, z5, z6, z7⟩
  · exact absurd z1 (by simp)
  · exact ⟨z3, z4, by rw [← z5]; exact (o16 li z3 z4).1.1⟩
/-- one part of a KIND is read and hung on; then the loop's head -/
theorem cR_kid1 {p : Int} {f d F : Nat} {kd cnt : Nat} (hR : PatOK t n s m ru fu f (d + 1) F) (hd5 : d ≤ 5) (hM0 : c_M t n s i m ru fu σ (g 3) H G) (hp0 : 0 ≤ p) (hkd : kd < m) {rem jj ic : Nat} {σc gc Kc : e3_H} {Gc : e3_G} {l : List Int} {li la : Int} (hcnt : jj + rem + 1 = cnt) (h44 : σc 44 kd = (cnt : Int)) (hop : c_op t n s m ru fu σ g H G fl0 code p 1 ic σc gc Kc Gc l li la) (h46 : σc 46 p = 5) (hjj : (jj = 0 ∧ li = -4) ∨ (jj ≠ 0 ∧ li ≠ -4 ∧ gc 1 li = 8 * code + jj ∧ c_wy (wys Kc 1 l) (σc 55 p))) (h7 : Kc fu 7 ≤ (ic : Int) ∧ 2 * Kc fu 7 + 2 ≤ 2 * H fu 7 + ((ic : Int) - i)) (h07 : H fu 7 ≤ Kc fu 7) (hii : i < ic) (hpot : pot Kc Gc fu ≤ pot H G fu + 60 * ((ic : Int) - i) - 16)
    (hfl : ∀ q K2 G2, a_pat t n f (σc 45 (4 * (kd : Int) + jj)) (d + 1) false ic σc = .inl q → c_bad ru fu q H G K2 G2 → gz G2 ≤ pot H G fu + 128 + 60 * ((s : Int) - i + 1) → QQ 0 K2 G2)
    (hgo : ∀ j σ3 q K4 G3 g3 l2, a_pat t n f (σc 45 (4 * (kd : Int) + jj)) (d + 1) false ic σc = .inr (j, σ3, q) → ic < j → c_op t n s m ru fu σ g H G fl0 code p 1 j (a_into σ3 p li q) g3 K4 G3 l2 q (g3 0 q) → c_wy (wys K4 1 l2) (a_into σ3 p li q 55 p) → g3 1 q = 8 * code + ((jj + 1 : Nat) : Int) → q ≠ -4 → (K4 fu 7 ≤ (j : Int) ∧ 2 * K4 fu 7 + 1 ≤ 2 * H fu 7 + ((j : Int) - i)) → H fu 7 ≤ K4 fu 7 → pot K4 G3 fu ≤ pot H G fu + 60 * ((j : Int) - i) → a_into σ3 p li q 44 kd = (cnt : Int) → a_into σ3 p li q 46 p = 5 → wR_readKindPattern_76 (wR_readPattern F) QQ (rem + 1) G.length d kd cnt (g3 0 q) ((jj + 1 : Nat) : Int) K4 G3) :
    wR_readKindPattern_97 (wR_readPattern F) QQ (fun l1 l2 l3 l4 l5 l6 H G => wR_readKindPattern_76 (wR_readPattern F) QQ (rem + 1) l1 l2 l3 l4 l5 l6 H G) G.length d kd cnt la jj Kc Gc := by
  have hd := c_M_ad hM0
  obtain ⟨o1, o2, ⟨o3, o4, o5, o6, o7, o8⟩, ⟨o9, o10, o11, o12, o13, o14⟩, o15, ⟨o16, o17⟩, ⟨o18, o19⟩, o20, ⟨o21, o22, o23⟩, o24⟩ := id hop
  have hdc := c_M_ad o1
  have ga0 : g_at Gc (G.length : Int) (110, 10) := by rw [← o10]; exact o9.2.1
  have hk4 := o4.1.2.2.2.2 kd hkd
  have h9 := id o9
  obtain ⟨_, _, _, _, pl1, pl2, _⟩ := h9
  rw [o10] at pl1 pl2
  have hcode : gc 3 (Kc G.length 2) = code := by rw [pl2]; exact o22
  have hso := a_sort_in (jj := jj) (kd := (kd : Int)) o4 (by omega) (by omega)
  unfold wR_readKindPattern_97
  refine cK_partSort o1.2.1 o4.1 hkd (by omega) ⟨ga_ob (c := 10) ga0, ?_⟩
  rw [o1.2.2.2.2]
  have hcp := o1.2.2.2.1
  have hi1600 : (ic : Int) ≤ 1601 := by
    have := o1.1.2.1
    have := o1.1.2.2.2.2.2.2.1
    omega
  refine ⟨ga_ob (c := 8) hcp.2.1, cF_placeIn hcp (by omega) (by omega) (by omega) (fun x2 K1 G1 cx2 p1 p2 p3 p4 p5 p6 p7 p8 p9 => ?_)⟩
  rw [w_p1 (by omega)]
  have cdv : cd (gc 3) (Kc G.length 2) = code := by unfold cd; rw [if_neg (by omega)]; exact hcode
  rw [cdv] at p4
  have M1 : c_M t n s ic m ru fu σc (g_3 gc cx2 3) K1 G1 := by rw [g_3_3]; exact c_M_pl o1 p8 p1
  have kpat : ∀ b k : Int, g_at Gc b (110, 10) → 139 ≤ b → K1 b k = Kc b k := by
    intro b k gb hb
    have hpa := c_M_pa o1 gb
    exact p8.2.1 b k (ga_lt gb) (by omega) (by omega) (by omega)
  have e5c : Kc ru 5 = H ru 5 := o2.2.2.2.2.1 5 (by decide) (by decide)
  have E1 : c_E ru fu H G K1 G1 := c_E_pl (by omega) (by omega) (by omega) (by omega) o2 (by omega) p8 p6
  have op1 := c_op_go (j := ic) (σ2 := σc) (g2 := g_3 gc cx2) (K2 := K1) (G2 := G1) hop M1 E1 p8.1 (fr_rf _ _) o4 o5 o6 kpat p6 ⟨fun a k a0 a1 _ => g_3_ne _ _ (by omega), fun k _ hk => by rw [g_3_3]; exact p5 k hk⟩ h07 ⟨fun q q0 q1 => by omega, fun q q2 y1 y2 y3 => by omega⟩
  have hli4 : li = -4 ∨ (p < li ∧ li < σc 40 16) := by
    rcases o20 with ⟨z1, z2, z3⟩ | ⟨l', z1, z2, z3, z4, z5, z6, z7⟩
    · exact Or.inl z2
    · exact Or.inr ⟨z3, z4⟩
  refine c_op_child (mu := false) hR hM0 rfl hp0 op1 hso ⟨p2, p3⟩ (by omega) (by omega) ?_ (fun j σ3 q K3 G3 g3 he hq hij op3 hla hga0 hg1 hwy hold hrows h7j hlow hf7 hpt => brF (by have := c_op_last op3; omega) ⟨ga_ob (c := 10) hga0, cA_hang hga0 hla ?_⟩) (fun q K3 G3 he hb hz => brT (by decide) (hfl q K3 G3 he hb (by omega)))
  · rw [g_3_3, p4, h46, if_neg (show ¬ (5 : Int) = 6 by decide)]
    rcases hjj with ⟨z1, z2⟩ | ⟨z1, z2, z3, _⟩
    · rw [if_pos z2]; omega
    · rw [if_neg z2, g_3_ne _ _ (by omega), z3]
  · rw [w_p1 (by omega)]
    have hcode3 : g3 1 q = 8 * code + ((jj + 1 : Nat) : Int) := by rw [hg1, g_3_3, p4]; omega
    have r55 : σ3 55 p = σc 55 p := hrows 55 p (by omega) (by omega) o7
    have r46 : σ3 46 p = 5 := by rw [hrows 46 p (by omega) (by omega) o7]; exact h46
    have hmem : ∀ c ∈ l, (∃ q' : Int, p ≤ q' ∧ q' < σc 40 16 ∧ g_3 gc cx2 0 q' = c) := by
      intro c hc
      obtain ⟨q', q0, q1, q2⟩ := o19 c hc
      exact ⟨q', by omega, q1, by rw [g_3_ne _ _ (by omega)]; exact q2⟩
    have kcl : ∀ c ∈ l, K1 c 9 = Kc c 9 := by
      intro c hc
      obtain ⟨q', q0, q1, q2⟩ := o19 c hc
      rw [← q2]
      exact kpat _ _ (o16 q' q0 q1).1.2.1 (o16 q' q0 q1).1.1
    refine hgo j σ3 q _ G3 g3 _ he hij op3 ?_ hcode3 (by have := c_op_last op3; omega) (by rw [hf7]; omega) ?_ (by omega) ?_ ?_
    · -- ways
      have k9 : ∀ c : Int, (if la < 0 then e3_up K3 G.length 7 (g3 0 q) else e3_up K3 la 8 (g3 0 q)) c 9 = K3 c 9 := by
        intro c
        by_cases hz : la < 0
        · rw [if_pos hz, e3_up_ne (by omega)]
        · rw [if_neg hz, e3_up_ne (by omega)]
      rw [wys_snoc, k9, wys_eq (H := Kc) l 1 (fun c hc => by rw [k9, (hold c 9 (hmem c hc)).1, kcl c hc])]
      rcases hjj with ⟨z1, z2⟩ | ⟨z1, z2, z3, z4⟩
      · have hl : l = [] := by
          rcases o20 with ⟨y1, _⟩ | ⟨_, _, _, y3, _⟩
          · exact y1
          · omega
        rw [hl]
        show c_wy (if 10000 < 1 * K3 (g3 0 q) 9 then 10000 else 1 * K3 (g3 0 q) 9) _
        have i55 : a_into σ3 p li q 55 p = σ3 55 q := by unfold a_into; rw [if_pos z2, e3_up_self]
        have h1 := hwy.1
        rw [i55, Int.one_mul, if_neg (by omega)]
        exact hwy
      · have i55 : a_into σ3 p li q 55 p = if 1000 < σc 55 p * σ3 55 q then 1000 else σc 55 p * σ3 55 q := by
          unfold a_into
          rw [if_neg z2, e3_up_self, r46, if_pos rfl, r55]
        rw [i55]
        exact wy_mul z4 hwy
    · rw [hf7]
      have := hij
      have := (c_E_rf ru fu H G).1
      have h8 := op3.2.1.2.2.2.2.2.2.2.2.1
      rw [hf7] at h8
      exact h8
    · rw [a_into_at 44 kd (by omega) (by omega) (by omega)]
      have := a_pat_ok _ _ _ _ _ _ _ _ _ he o4 o6
      rw [this.2.2.2.2.2.2.2.1 44 (by omega) (by omega)]
      exact h44
    · rw [a_into_at 46 p (by omega) (by omega) (by omega)]; exact r46
theorem cR_kids {p : Int} {f d F : Nat} {kd cnt : Nat} (hR : PatOK t n s m ru fu f (d + 1) F) (hd5 : d ≤ 5) (hM0 : c_M t n s i m ru fu σ (g 3) H G) (hp0 : 0 ≤ p) (hkd : kd < m) :
    ∀ (rem jj ic : Nat) (σc gc Kc : e3_H) (Gc : e3_G) (l : List Int) (li la : Int), jj + rem + 1 = cnt → σc 44 kd = (cnt : Int) → c_op t n s m ru fu σ g H G fl0 code p 1 ic σc gc Kc Gc l li la → σc 46 p = 5 → ((jj = 0 ∧ li = -4) ∨ (jj ≠ 0 ∧ li ≠ -4 ∧ gc 1 li = 8 * code + jj ∧ c_wy (wys Kc 1 l) (σc 55 p))) → (Kc fu 7 ≤ (ic : Int) ∧ 2 * Kc fu 7 + 2 ≤ 2 * H fu 7 + ((ic : Int) - i)) → H fu 7 ≤ Kc fu 7 → i < ic → pot Kc Gc fu ≤ pot H G fu + 60 * ((ic : Int) - i) - 16 →
      (∀ j σ2 p2 K2 G2 g2, a_kids t n (fun s2 i2 σ2 => a_pat t n f s2 (d + 1) false i2 σ2) p kd (rem + 1) jj li ic σc = .inr (j, σ2, p2) → c_ok2 t n s m ru fu i σ g H G fl0 code j σ2 p K2 G2 g2 → g2 0 p = G.length → σ2 54 p = -4 → p_inv σ2 m j → nm_inv (σ 40 27) m σ2 → a_fr p σ σ2 → p < σ2 40 16 → QQ 1 K2 G2) →
      (∀ q K2 G2, a_kids t n (fun s2 i2 σ2 => a_pat t n f s2 (d + 1) false i2 σ2) p kd (rem + 1) jj li ic σc = .inl q → c_bad ru fu q H G K2 G2 → gz G2 ≤ pot H G fu + 128 + 60 * ((s : Int) - i + 1) → QQ 0 K2 G2) →
      wR_readKindPattern_97 (wR_readPattern F) QQ (fun l1 l2 l3 l4 l5 l6 H G => wR_readKindPattern_76 (wR_readPattern F) QQ (rem + 1) l1 l2 l3 l4 l5 l6 H G) G.length d kd cnt la jj Kc Gc := by
  have hd := c_M_ad hM0
  intro rem
  induction rem with
  | zero =>
    intro jj ic σc gc Kc Gc l li la hcnt h44 hop h46 hjj h7 h07 hii hpot hok hfl
    refine cR_kid1 (rem := 0) hR hd5 hM0 hp0 hkd hcnt h44 hop h46 hjj h7 h07 hii hpot (fun q K2 G2 he => hfl q K2 G2 (by unfold a_kids; rw [he])) (fun j σ3 q K4 G3 g3 l2 he hij hop4 hw hc1 hli h7' h07' hpot' h44' h46' => ?_)
    rw [a_kids_1 he] at hok hfl
    rw [if_pos rfl] at hok hfl
    obtain ⟨o1, o2, ⟨o3, o4, o5, o6, o7, o8⟩, ⟨o9, o10, o11, o12, o13, o14⟩, o15, ⟨o16, o17⟩, ⟨o18, o19⟩, o20, ⟨o21, o22, o23⟩, o24⟩ := id hop4
    have ga0 : g_at G3 (G.length : Int) (110, 10) := by rw [← o10]; exact o9.2.1
    have hl139 : 139 ≤ (G.length : Int) := by omega
    refine brF (by omega) ⟨ga_ob (c := 10) ga0, ⟨l2.length + 1, cA_chainWays l2 1 _ o18 (fun c hc => ?_) (by omega) (by omega) ⟨ga_ob (c := 10) ga0, ?_⟩⟩⟩
    · obtain ⟨q', q0, q1, q2⟩ := o19 c hc
      have hpt := o16 q' q0 q1
      rw [← q2]
      exact ⟨by have := hpt.1.1; omega, hpt.1.2.1, hpt.2.2.2.2.1.1, hpt.2.2.2.2.1.2⟩
    · intro H8 e8
      have op8 := c_op_9 (v := wys K4 1 l2) hop4 ⟨hd.1, hd.2.1, hd.2.2.1⟩
      rw [← e8] at op8
      have u9 : H8 G.length 9 = wys K4 1 l2 := by rw [e8, e3_up_self]
      have u7 : H8 fu 7 = K4 fu 7 := by rw [e8, e3_up_ne (by omega)]
      have u8 : H8 fu 8 = K4 fu 8 := by rw [e8, e3_up_ne (by omega)]
      have up : pot H8 G3 fu = pot K4 G3 fu := by unfold pot; rw [u7, u8]
      have hjs : j < s := op8.1.1.2.2.2.2.2.2.1
      have hgz := gz_pot op8.1
      unfold wR_readKindPattern_191
      rw [(c_now op8.1.1).1]
      refine ⟨fun h44' => cR_failHere op8.1.1 (by decide) (fun K5 hf => ⟨Or.inl rfl, hfl _ K5 G3 (by rw [if_neg (by omega)]) (c_bad_f op8.1 (by omega) op8.2.1 hf) (by omega)⟩), fun h44' => cR_expect op8.1.1 (by decide) (fun h41 K5 a5 b5 => ⟨Or.inr rfl, ?_⟩) (fun h41 K5 hf => ⟨Or.inl rfl, hfl _ K5 G3 (by rw [if_neg h41]) (c_bad_f op8.1 (by omega) op8.2.1 hf) (by omega)⟩)⟩
      have op5 := c_op_s op8 (by omega) a5 b5
      have at5 : ∀ a k : Int, a ≠ 3 → K5 a k = H8 a k := fun a k ha => b5.1 a k (by simp only [List.mem_cons, List.not_mem_nil, or_false]; exact ha)
      have v7 : K5 fu 7 = H8 fu 7 := at5 _ _ (by omega)
      have v8 : K5 fu 8 = H8 fu 8 := at5 _ _ (by omega)
      have vp : pot K5 G3 fu = pot H8 G3 fu := by unfold pot; rw [v7, v8]
      refine hok (j + 1) _ p K5 G3 g3 (by rw [if_pos h41]) (c_op_fin op5 (by rw [at5 _ _ (by omega), u9]; exact hw) (by omega) (by omega)) o10 o12 (p_inv_le o4 (by omega)) o5 o3 o7
  | succ rem ih =>
    intro jj ic σc gc Kc Gc l li la hcnt h44 hop h46 hjj h7 h07 hii hpot hok hfl
    refine cR_kid1 (rem := rem + 1) hR hd5 hM0 hp0 hkd hcnt h44 hop h46 hjj h7 h07 hii hpot (fun q K2 G2 he => hfl q K2 G2 (by unfold a_kids; rw [he])) (fun j σ3 q K4 G3 g3 l2 he hij hop4 hw hc1 hli h7' h07' hpot' h44' h46' => ?_)
    rw [a_kids_1 he] at hok hfl
    rw [if_neg (by omega)] at hok hfl
    have hjs : j < s := hop4.1.1.2.2.2.2.2.2.1
    have hgz := gz_pot hop4.1
    refine brT (by omega) (brT (by omega) ?_)
    unfold wR_readComma
    rw [(c_now hop4.1.1).1]
    refine ⟨fun hc => cT_stp hop4.1.1 ⟨by omega, by omega⟩ (fun K5 a5 b5 => brF (by decide) ?_), fun hc => cR_failHere hop4.1.1 (by decide) (fun K5 hf => ⟨Or.inl rfl, brT rfl (hfl _ K5 G3 (by rw [if_neg hc]) (c_bad_f hop4.1 (by omega) hop4.2.1 hf) (by omega))⟩)⟩
    rw [if_pos hc] at hok hfl
    have op5 := c_op_s hop4 (by omega) a5 b5
    have at5 : ∀ a k : Int, a ≠ 3 → K5 a k = K4 a k := fun a k ha => b5.1 a k (by simp only [List.mem_cons, List.not_mem_nil, or_false]; exact ha)
    have v7 : K5 fu 7 = K4 fu 7 := at5 _ _ (by omega)
    have v8 : K5 fu 8 = K4 fu 8 := at5 _ _ (by omega)
    have vp : pot K5 G3 fu = pot K4 G3 fu := by unfold pot; rw [v7, v8]
    have vw : wys K5 1 l2 = wys K4 1 l2 := wys_eq l2 1 (fun c hc => at5 _ _ (by
      obtain ⟨q', q0, q1, q2⟩ := hop4.2.2.2.2.2.2.1.2 c hc
      have := (hop4.2.2.2.2.2.1.1 q' q0 q1).1.1
      omega))
    exact ih (jj + 1) (j + 1) _ g3 K5 G3 l2 q (g3 0 q) (by omega) h44' op5 h46' (Or.inr ⟨by omega, hli, hc1, by rw [vw]; exact hw⟩) (by omega) (by omega) (by omega) (by omega) hok hfl
end CKI2
