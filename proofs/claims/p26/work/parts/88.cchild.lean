theorem cA_hang {Q : Int → e3_H → e3_G → Prop} {H : e3_H} {G : e3_G} {a b la : Int} (ha : g_at G a (110, 10)) (hl : la < 0 ∨ g_at G la (110, 10)) (hQ : Q b (if la < 0 then e3_up H a 7 b else e3_up H la 8 b) G) : wA_hang Q a b la H G := by
  unfold wA_hang wA_hang_17
  refine ⟨fun hz => ⟨ga_ob (c := 10) ha, ?_⟩, fun hz => ⟨ga_ob (c := 10) (hl.resolve_left hz), ?_⟩⟩
  · intro H1 e1
    rw [if_pos hz] at hQ
    rw [e1]; exact hQ
  · intro H1 e1
    rw [if_neg hz] at hQ
    rw [e1]; exact hQ
section CKI
variable {t : Int → Int} {n s m : Nat} {ru fu : Int} {σ g H : e3_H} {G : e3_G} {fl0 code : Int} {i : Nat} {QQ : Int → e3_H → e3_G → Prop}
/-- a child is read behind a place for it; then it is hung on -/
theorem c_op_child {p fk x2 s2 : Int} {f d F ic : Nat} {mu : Bool} {muI : Int} {σc gc Kc : e3_H} {Gc : e3_G} {l : List Int} {li la : Int} {Q : Int → e3_H → e3_G → Prop} (hR : PatOK t n s m ru fu f d F) (hM0 : c_M t n s i m ru fu σ (g 3) H G) (hmu : muI = if mu = true then 1 else 0) (hp0 : 0 ≤ p) (h : c_op t n s m ru fu σ g H G fl0 code p fk ic σc gc Kc Gc l li la) (hs2 : 0 ≤ s2 ∧ s2 < 3 + m) (hx2 : 0 ≤ x2 ∧ x2 < Kc fu 7) (h7 : Kc fu 7 ≤ (ic : Int) + 1) (h07 : H fu 7 ≤ Kc fu 7)
    (hc1 : gc 3 x2 = if li = -4 then (if σc 46 p = 6 then code else 8 * code + 1) else gc 1 li + fk)
    (hok : ∀ j σ3 q K3 G3 g3, a_pat t n f s2 d mu ic σc = .inr (j, σ3, q) → q = σc 40 16 → ic < j → c_op t n s m ru fu σ g H G fl0 code p fk j (a_into σ3 p li q) g3 (if la < 0 then e3_up K3 G.length 7 (g3 0 q) else e3_up K3 la 8 (g3 0 q)) G3 (l ++ [g3 0 q]) q (g3 0 q) → (la < 0 ∨ g_at G3 la (110, 10)) → g_at G3 G.length (110, 10) → g3 1 q = gc 3 x2 → c_wy (K3 (g3 0 q) 9) (σ3 55 q) → (∀ c k : Int, (∃ q' : Int, p ≤ q' ∧ q' < σc 40 16 ∧ gc 0 q' = c) → K3 c k = Kc c k ∧ c ≠ g3 0 q) → (∀ a q' : Int, 46 ≤ a → a ≤ 55 → q' < σc 40 16 → σ3 a q' = σc a q') → 2 * K3 fu 7 + 1 ≤ 2 * Kc fu 7 + ((j : Int) - ic) → (∀ b k : Int, b < 139 → (if la < 0 then e3_up K3 G.length 7 (g3 0 q) else e3_up K3 la 8 (g3 0 q)) b k = K3 b k) → (if la < 0 then e3_up K3 G.length 7 (g3 0 q) else e3_up K3 la 8 (g3 0 q)) fu 7 = K3 fu 7 → pot (if la < 0 then e3_up K3 G.length 7 (g3 0 q) else e3_up K3 la 8 (g3 0 q)) G3 fu ≤ pot Kc Gc fu + 60 * ((j : Int) - ic) → Q (g3 0 q) K3 G3)
    (hfl : ∀ q K3 G3, a_pat t n f s2 d mu ic σc = .inl q → c_bad ru fu q H G K3 G3 → gz G3 ≤ pot Kc Gc fu + 128 + 60 * ((s : Int) - ic + 1) → Q (-1) K3 G3) : wR_readPattern F s2 x2 d muI Kc Gc Q := by
  have hd := c_M_ad hM0
  obtain ⟨o1, o2, ⟨o3, o4, o5, o6, o7, o8⟩, ⟨o9, o10, o11, o12, o13, o14⟩, o15, ⟨o16, o17⟩, ⟨o18, o19⟩, o20, ⟨o21, o22, o23⟩, o24⟩ := id h
  have e27 : σc 40 27 = σ 40 27 := o3.2.1 27 (by omega) (by omega)
  have hdc := c_M_ad o1
  have hlen := c_E_len o2
  refine hR s2 x2 fk mu muI ic σc gc Kc Gc Q hmu o1 o4 (by rw [e27]; exact o5) o6 h7 hs2 hx2 (fun j σ3 q K3 G3 g3 he hk => ?_) (fun q K3 G3 he hb hz => hfl q K3 G3 he ⟨hb.1, hb.2.1, c_E_tr (by omega) (by omega) (by omega) o2 hb.2.2⟩ hz)
  obtain ⟨b1, b2, b3, b4, b5, b6⟩ := a_pat_ok _ _ _ _ _ _ _ _ _ he o4 o6
  have nm3 := (nm_pat (r := σ 40 27) _ _ _ _ _ _ _ _ _ he o4 o6 hs2.1 hs2.2 e27 o5).1
  obtain ⟨k1, k2, k3, k4, k5, k6, k7, k8, k9⟩ := hk
  rw [e27] at k3
  have kpat : ∀ b k : Int, g_at Gc b (110, 10) → 139 ≤ b → K3 b k = Kc b k := by
    intro b k gb hb
    have hpa := c_M_pa o1 gb
    exact k2.2.1 b k (ga_lt gb) (by omega) (by omega) (by omega) (by omega) (by omega) (by omega) (by omega)
  have op2 := c_op_go (j := j) (σ2 := σ3) (g2 := g3) (K2 := K3) (G2 := G3) h k1 (c_E_tr (by omega) (by omega) (by omega) o2 k2) k2.1 b6 b5 nm3 b4 kpat k2.2.2.2.2.2.2.2.2.1 k4 h07 k3
  have hlq : li < q := by
    rcases o20 with ⟨z1, z2, z3⟩ | ⟨l', z1, z2, z3, z4, z5, z6, z7⟩
    · omega
    · omega
  have h46 : σ3 46 p = σc 46 p := b6.2.2.2.1 46 p (by omega) (by omega) o7
  have gli : li ≠ -4 → g3 1 li = gc 1 li := by
    intro hz
    rcases o20 with ⟨z1, z2, z3⟩ | ⟨l', z1, z2, z3, z4, z5, z6, z7⟩
    · exact absurd z2 hz
    · exact k4.1 1 li (by omega) (by omega) z4
  have op3 := c_op_hang (q := q) op2 (Or.inr ⟨hd.1, hd.2.1, hd.2.2.1⟩) hp0 (by omega) hlq k7 (by
    rw [k5, hc1, h46]
    by_cases hz : li = -4
    · rw [if_pos hz, if_pos hz]
    · rw [if_neg hz, if_neg hz, gli hz]) k6
  obtain ⟨w1, w2⟩ := k3.1 q (by omega) (by omega)
  have ga0 : g_at G3 (G.length : Int) (110, 10) := by
    obtain ⟨E, rfl⟩ := k2.1
    rw [← o10]; exact ga_app o9.2.1
  have hl139 : 139 ≤ (G.length : Int) := by omega
  have la_cs : la < 0 ∨ (g_at G3 la (110, 10) ∧ 139 ≤ la) := by
    rcases o20 with ⟨z1, z2, z3⟩ | ⟨l', z1, z2, z3, z4, z5, z6, z7⟩
    · left; omega
    · right
      obtain ⟨E, rfl⟩ := k2.1
      rw [← z5]
      exact ⟨ga_app (o16 li z3 z4).1.2.1, (o16 li z3 z4).1.1⟩
  have fu_ne : (if la < 0 then e3_up K3 G.length 7 (g3 0 q) else e3_up K3 la 8 (g3 0 q)) fu 7 = K3 fu 7 ∧ (if la < 0 then e3_up K3 G.length 7 (g3 0 q) else e3_up K3 la 8 (g3 0 q)) fu 8 = K3 fu 8 := by
    by_cases hz : la < 0
    · rw [if_pos hz]
      have := c_M_pa k1 ga0
      exact ⟨e3_up_ne (by omega), e3_up_ne (by omega)⟩
    · rw [if_neg hz]
      have := c_M_pa k1 (la_cs.resolve_left hz).1
      exact ⟨e3_up_ne (by omega), e3_up_ne (by omega)⟩
  refine hok j σ3 q K3 G3 g3 he b2 b1 op3 (la_cs.imp id And.left) ga0 k5 w1.2.2.2.2 (fun c k hc => ?_) (fun a q' a1 a2 a3 => b6.2.2.2.1 a q' a1 a2 a3) k8 (fun b k hb => ?_) fu_ne.1 ?_
  · obtain ⟨q', q0, q1, q2⟩ := hc
    have gq : g_at Gc (gc 0 q') (110, 10) ∧ 139 ≤ gc 0 q' := by
      by_cases hz : q' = p
      · subst hz; exact ⟨o9.2.1, o9.1⟩
      · exact ⟨(o16 q' (by omega) q1).1.2.1, (o16 q' (by omega) q1).1.1⟩
    rw [← q2]
    exact ⟨kpat _ k gq.1 gq.2, by have := ga_lt gq.1; omega⟩
  · by_cases hz : la < 0
    · rw [if_pos hz, e3_up_ne (by omega)]
    · rw [if_neg hz, e3_up_ne (by have := (la_cs.resolve_left hz).2; omega)]
  · unfold pot
    unfold pot at k9
    rw [fu_ne.1, fu_ne.2]
    exact k9
end CKI
