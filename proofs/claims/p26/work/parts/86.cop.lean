/-- an open pattern p at address a with the patterns l hanging on it; li, la: the last one -/
def c_op (t : Int → Int) (n s m : Nat) (ru fu : Int) (σ g H : e3_H) (G : e3_G) (fl0 code p fk : Int) (ic : Nat) (σc gc Kc : e3_H) (Gc : e3_G) (l : List Int) (li la : Int) : Prop :=
  c_M t n s ic m ru fu σc (gc 3) Kc Gc ∧ c_E ru fu H G Kc Gc ∧ (a_fr p σ σc ∧ p_inv σc m ic ∧ nm_inv (σ 40 27) m σc ∧ σc 40 16 ≤ (ic : Int) ∧ p < σc 40 16 ∧ p = σ 40 16) ∧
  (c_p0 σc (σ 40 27) gc Kc Gc (Kc fu 7) p ∧ gc 0 p = G.length ∧ Kc G.length 6 = 0 ∧ σc 54 p = -4 ∧ Kc G.length 8 = -1 ∧ σc 52 p = -4) ∧ c_l1 σc gc Kc (σc 40 16) p ∧
  ((∀ q : Int, p < q → q < σc 40 16 → c_pt σc (σ 40 27) gc Kc Gc (Kc fu 7) (σc 40 16) q) ∧ ∀ q q2 : Int, p ≤ q → q < q2 → q2 < σc 40 16 → gc 0 q < gc 0 q2) ∧
  (chn Kc (Kc G.length 7) l ∧ ∀ c ∈ l, ∃ q : Int, p < q ∧ q < σc 40 16 ∧ gc 0 q = c) ∧
  ((l = [] ∧ li = -4 ∧ la = -1) ∨ (∃ l' : List Int, l = l' ++ [la] ∧ (∀ c ∈ l', c < la) ∧ p < li ∧ li < σc 40 16 ∧ gc 0 li = la ∧ σc 52 li = -4 ∧ gc 2 li = fk)) ∧
  (c_g g gc p (H fu 7) ∧ gc 1 p = code ∧ gc 2 p = fl0) ∧ fk = if σc 46 p = 6 then 0 else 1
section COP
variable {t : Int → Int} {n s m : Nat} {ru fu : Int} {σ g H : e3_H} {G : e3_G} {fl0 code p fk : Int} {ic : Nat} {σc gc Kc : e3_H} {Gc : e3_G} {l : List Int} {li la : Int}
theorem c_M_pl {i : Nat} {cx cx2 : Int → Int} {K : e3_H} {G2 : e3_G} (h : c_M t n s i m ru fu σ cx H G) (hf : pl_fr fu H G K G2) (hp : c_pl K G2 fu cx2) : c_M t n s i m ru fu σ cx2 K G2 := by
  have hd := c_M_ad h
  obtain ⟨h1, h2, h3, h4, h5⟩ := h
  obtain ⟨⟨E, rfl⟩, b2, b3, b4, b5⟩ := hf
  exact ⟨c_tk_eq h1 (fun a k ha => b2 a k (by omega) (by omega) (by omega) (by omega)), ckd_eq h2 (fun a k ha => b2 a k (by omega) (by omega) (by omega) (by omega)), c_rl_eq h3 (fun a k ha => b2 a k (by omega) (by omega) (by omega) (by omega)), hp, by rw [b2 14 6 (by omega) (by omega) (by omega) (by omega)]; exact h5⟩
/-- memory, ghosts and state go on; the patterns up to hi stay -/
theorem c_op_go {j : Nat} {σ2 g2 K2 : e3_H} {G2 : e3_G} (h : c_op t n s m ru fu σ g H G fl0 code p fk ic σc gc Kc Gc l li la)
    (hM : c_M t n s j m ru fu σ2 (g2 3) K2 G2) (hE : c_E ru fu H G K2 G2) (hG : ∃ E, G2 = Gc ++ E) (hfr : a_fr (σc 40 16) σc σ2) (hpi : p_inv σ2 m j) (hnm : nm_inv (σ 40 27) m σ2) (h16 : σ2 40 16 ≤ (j : Int))
    (hK : ∀ b k : Int, g_at Gc b (110, 10) → 139 ≤ b → K2 b k = Kc b k) (h7 : Kc fu 7 ≤ K2 fu 7) (hg : c_g gc g2 (σc 40 16) (Kc fu 7)) (h07 : H fu 7 ≤ Kc fu 7)
    (hnew : (∀ q : Int, σc 40 16 ≤ q → q < σ2 40 16 → c_pt σ2 (σ 40 27) g2 K2 G2 (K2 fu 7) (σ2 40 16) q ∧ Gc.length ≤ g2 0 q) ∧ ∀ q q2 : Int, σc 40 16 ≤ q → q < q2 → q2 < σ2 40 16 → g2 0 q < g2 0 q2) : c_op t n s m ru fu σ g H G fl0 code p fk j σ2 g2 K2 G2 l li la := by
  obtain ⟨o1, o2, ⟨o3, o4, o5, o6, o7, o8⟩, ⟨o9, o10, o11, o12, o13, o14⟩, o15, ⟨o16, o17⟩, ⟨o18, o19⟩, o20, ⟨o21, o22, o23⟩, o24⟩ := h
  obtain ⟨f1, f2, f3, f4, f5, f6, f7, f8⟩ := id hfr
  have e27 : σc 40 27 = σ 40 27 := o3.2.1 27 (by omega) (by omega)
  rw [e27] at f7 f8
  have ga0 : g_at Gc (G.length : Int) (110, 10) := by rw [← o10]; exact o9.2.1
  have hl139 : 139 ≤ (G.length : Int) := by rw [← o10]; exact o9.1
  have adr : ∀ q : Int, p ≤ q → q < σc 40 16 → g_at Gc (gc 0 q) (110, 10) ∧ 139 ≤ gc 0 q := by
    intro q q0 q1
    by_cases hz : q = p
    · subst hz; exact ⟨o9.2.1, o9.1⟩
    · exact ⟨(o16 q (by omega) q1).1.2.1, (o16 q (by omega) q1).1.1⟩
  have kp : ∀ q k : Int, p ≤ q → q < σc 40 16 → K2 (gc 0 q) k = Kc (gc 0 q) k := fun q k q0 q1 => hK _ k (adr q q0 q1).1 (adr q q0 q1).2
  refine ⟨hM, hE, ⟨fr_tr o3 hfr (by omega), hpi, hnm, h16, by omega, o8⟩, ⟨c_p0_keep o9 hG (fun a a1 a2 => f4 a p a1 (by omega) o7) f8 f7 (hg.1 0 p (by omega) (by omega) o7) (hg.1 1 p (by omega) (by omega) o7) hg.2 h7 (fun k _ => kp p k (by omega) o7), ?_, ?_, ?_, ?_, ?_⟩, ?_, ⟨fun q q0 q1 => ?_, fun q q2 y1 y2 y3 => ?_⟩, ⟨?_, fun c hc => ?_⟩, ?_, ⟨⟨fun a k a0 a1 hk => ?_, fun k k0 k1 => ?_⟩, ?_, ?_⟩, ?_⟩
  · rw [hg.1 0 p (by omega) (by omega) o7]; exact o10
  · rw [hK _ _ ga0 hl139]; exact o11
  · rw [f4 54 p (by omega) (by omega) o7]; exact o12
  · rw [hK _ _ ga0 hl139]; exact o13
  · rw [f4 52 p (by omega) (by omega) o7]; exact o14
  · exact c_l1_keep o15 (f4 46 p (by omega) (by omega) o7) (f4 51 p (by omega) (by omega) o7) hg.1 o7 f1 (kp p 7 (by omega) o7)
  · by_cases hz : q < σc 40 16
    · exact c_pt_keep (o16 q q0 hz) hG (fun a a1 a2 => f4 a q a1 a2 hz) f8 f7 hg.1 hg.2 h7 hz f1 (fun k => kp q k (by omega) hz)
    · exact (hnew.1 q (by omega) q1).1
  · by_cases hz : q2 < σc 40 16
    · rw [hg.1 0 q (by omega) (by omega) (by omega), hg.1 0 q2 (by omega) (by omega) hz]; exact o17 q q2 y1 y2 hz
    · by_cases hz2 : q < σc 40 16
      · rw [hg.1 0 q (by omega) (by omega) hz2]
        have h1 := ga_lt (adr q y1 hz2).1
        have h2 := (hnew.1 q2 (by omega) y3).2
        omega
      · exact hnew.2 q q2 (by omega) y2 y3
  · rw [hK _ 7 ga0 hl139]
    refine chn_eq l _ (fun c hc => ?_) o18
    obtain ⟨q, q0, q1, q2⟩ := o19 c hc
    rw [← q2]
    exact kp q 8 (by omega) q1
  · obtain ⟨q, q0, q1, q2⟩ := o19 c hc
    exact ⟨q, q0, by omega, by rw [hg.1 0 q (by omega) (by omega) q1]; exact q2⟩
  · rcases o20 with h | ⟨l', z1, z2, z3, z4, z5, z6, z7⟩
    · exact Or.inl h
    · exact Or.inr ⟨l', z1, z2, z3, by omega, by rw [hg.1 0 li (by omega) (by omega) z4]; exact z5, by rw [f4 52 li (by omega) (by omega) z4]; exact z6, by rw [hg.1 2 li (by omega) (by omega) z4]; exact z7⟩
  · rw [hg.1 a k a0 a1 (by omega)]; exact o21.1 a k a0 a1 hk
  · rw [hg.2 k k0 (by omega)]; exact o21.2 k k0 k1
  · rw [hg.1 1 p (by omega) (by omega) o7]; exact o22
  · rw [hg.1 2 p (by omega) (by omega) o7]; exact o23
  · rw [f4 46 p (by omega) (by omega) o7]; exact o24
theorem c_lk_q {gc : e3_H} {q : Int} (h : 0 ≤ q) : c_lk gc q = gc 0 q := by unfold c_lk; rw [if_neg (by omega)]
/-- one more is hung on -/
theorem c_op_hang {q : Int} (h : c_op t n s m ru fu σ g H G fl0 code p fk ic σc gc Kc Gc l li la) (h0 : c_M t n s ic m ru fu σc (gc 3) H G ∨ ((139 ≤ ru ∧ ru < G.length) ∧ (139 ≤ H ru 5 ∧ H ru 5 < G.length) ∧ (139 ≤ fu ∧ fu < G.length))) (hp0 : 0 ≤ p) (hq : p < q ∧ q < σc 40 16) (hlq : li < q) (h52 : σc 52 q = -4) (hc1 : gc 1 q = if li = -4 then (if σc 46 p = 6 then code else 8 * code + 1) else gc 1 li + fk) (hc2 : gc 2 q = fk) :
    c_op t n s m ru fu σ g H G fl0 code p fk ic (a_into σc p li q) gc (if la < 0 then e3_up Kc G.length 7 (gc 0 q) else e3_up Kc la 8 (gc 0 q)) Gc (l ++ [gc 0 q]) q (gc 0 q) := by
  obtain ⟨o1, o2, ⟨o3, o4, o5, o6, o7, o8⟩, ⟨o9, o10, o11, o12, o13, o14⟩, o15, ⟨o16, o17⟩, ⟨o18, o19⟩, o20, ⟨o21, o22, o23⟩, o24⟩ := h
  have hA : (139 ≤ ru ∧ ru < G.length) ∧ (139 ≤ H ru 5 ∧ H ru 5 < G.length) ∧ (139 ≤ fu ∧ fu < G.length) := by
    rcases h0 with h0 | h0
    · have hd := c_M_ad h0; exact ⟨hd.1, hd.2.1, hd.2.2.1⟩
    · exact h0
  obtain ⟨hr, hrn, hfu⟩ := hA
  have ga0 : g_at Gc (G.length : Int) (110, 10) := by rw [← o10]; exact o9.2.1
  have hl139 : 139 ≤ (G.length : Int) := by rw [← o10]; exact o9.1
  have hqa := o16 q hq.1 hq.2
  have hqb := o17 p q (by omega) hq.1 hq.2
  rw [o10] at hqb
  have n8 : Kc (gc 0 q) 8 = -1 := by rw [hqa.2.2.2.1.1, h52]; rfl
  have x16 : a_into σc p li q 40 16 = σc 40 16 := a_into_at 40 16 (by omega) (by omega) (by omega)
  have xrow : ∀ a k : Int, a ≠ 51 → a ≠ 52 → a ≠ 55 → a_into σc p li q a k = σc a k := a_into_at
  have xσ : ∀ {K : e3_H}, c_M t n s ic m ru fu σc (gc 3) K Gc → c_M t n s ic m ru fu (a_into σc p li q) (gc 3) K Gc := fun hM => c_M_σ hM (funext fun y => xrow _ _ (by omega) (by omega) (by omega)) (funext fun y => xrow _ _ (by omega) (by omega) (by omega)) (funext fun y => xrow _ _ (by omega) (by omega) (by omega)) (funext fun y => xrow _ _ (by omega) (by omega) (by omega)) (xrow _ _ (by omega) (by omega) (by omega)) (xrow _ _ (by omega) (by omega) (by omega)) (funext fun y => xrow _ _ (by omega) (by omega) (by omega)) (funext fun y => xrow _ _ (by omega) (by omega) (by omega)) (funext fun y => xrow _ _ (by omega) (by omega) (by omega))
  have x56 : a_into σc p li q 56 (σ 40 27) = σc 56 (σ 40 27) := xrow _ _ (by omega) (by omega) (by omega)
  have xrn : ∀ k : Int, 0 ≤ k → k < σc 56 (σ 40 27) → a_into σc p li q 57 (8 * σ 40 27 + k) = σc 57 (8 * σ 40 27 + k) := fun k _ _ => xrow _ _ (by omega) (by omega) (by omega)
  have hgr : ∀ a k : Int, 0 ≤ a → a ≤ 2 → k < σc 40 16 → gc a k = gc a k := fun _ _ _ _ _ => rfl
  have hmem : ∀ c ∈ l ++ [gc 0 q], ∃ q' : Int, p < q' ∧ q' < σc 40 16 ∧ gc 0 q' = c := by
    intro c hc
    rcases List.mem_append.mp hc with hc | hc
    · exact o19 c hc
    · rw [List.mem_singleton] at hc
      exact ⟨q, hq.1, hq.2, hc.symm⟩
  rcases o20 with ⟨z1, z2, z3⟩ | ⟨l', z1, z2, z3, z4, z5, z6, z7⟩
  · subst z1 z2 z3
    rw [if_pos (by decide)]
    rw [if_pos rfl] at hc1
    have i51 : a_into σc p (-4) q 51 p = q := by unfold a_into; rw [if_pos rfl]; simp (disch := omega) only [e3_up_self, e3_up_ne]
    have i52 : ∀ k, a_into σc p (-4) q 52 k = σc 52 k := by intro k; unfold a_into; rw [if_pos rfl]; simp (disch := omega) only [e3_up_self, e3_up_ne]
    have irow : ∀ a q' : Int, q' ≠ p → a_into σc p (-4) q a q' = σc a q' := by
      intro a q' hz
      unfold a_into; rw [if_pos rfl, e3_up_ne (by omega), e3_up_ne (by omega)]
    have kne : ∀ b k : Int, ¬ (b = G.length ∧ k = 7) → (e3_up Kc G.length 7 (gc 0 q)) b k = Kc b k := fun b k hz => e3_up_ne hz
    have e7 : (e3_up Kc G.length 7 (gc 0 q)) fu 7 = Kc fu 7 := kne _ _ (by omega)
    refine ⟨xσ (c_M_up o1 ga0 hl139), c_E_up o2 (by omega) (by omega) (by omega) hl139 (by omega), ⟨fr_into o3 (by omega) (Or.inl rfl), p_into o4 (by omega) (by omega), (nm_into o5).1, by rw [x16]; exact o6, by rw [x16]; exact o7, o8⟩, ⟨?_, o10, ?_, ?_, ?_, ?_⟩, ⟨?_, Or.inr ⟨?_, ?_, ?_, ?_⟩⟩, ⟨fun q' q0 q1 => ?_, fun q' q2 y1 y2 y3 => o17 q' q2 y1 y2 (by rw [x16] at y3; exact y3)⟩, ⟨?_, ?_⟩, Or.inr ⟨[], rfl, fun c hc => (List.not_mem_nil hc).elim, hq.1, by rw [x16]; exact hq.2, rfl, by rw [i52]; exact h52, hc2⟩, ⟨o21, o22, o23⟩, ?_⟩
    · exact c_p0_keep o9 ⟨[], by rw [List.append_nil]⟩ (fun a a1 a2 => xrow a p (by omega) (by omega) (by omega)) xrn (by rw [x56]; omega) rfl rfl (fun _ _ _ => rfl) (by rw [e7]; omega) (fun k hk => kne _ _ (by omega))
    · rw [kne _ _ (by omega)]; exact o11
    · rw [xrow _ _ (by omega) (by omega) (by omega)]; exact o12
    · rw [kne _ _ (by omega)]; exact o13
    · rw [i52]; exact o14
    · rw [o10, e3_up_self, i51, c_lk_q (by omega)]
    · rw [i51]; exact hq.1
    · rw [i51, x16]; exact hq.2
    · rw [i51, xrow 46 p (by omega) (by omega) (by omega), o22]; exact hc1
    · rw [i51, xrow 46 p (by omega) (by omega) (by omega), hc2]; exact o24
    · rw [x16] at q1 ⊢
      have := o17 p q' (by omega) q0 q1
      rw [e7]
      exact c_pt_keep (o16 q' q0 q1) ⟨[], by rw [List.append_nil]⟩ (fun a _ _ => irow a q' (by omega)) xrn (by rw [x56]; omega) hgr (fun _ _ _ => rfl) (by omega) q1 (by omega) (fun k => kne _ _ (by omega))
    · rw [e3_up_self]
      refine ⟨rfl, ?_⟩
      show (e3_up Kc G.length 7 (gc 0 q)) (gc 0 q) 8 < 0
      rw [kne _ _ (by omega), n8]
      decide
    · rw [x16]; exact hmem
    · rw [xrow 46 p (by omega) (by omega) (by omega)]; exact o24
  · have hla := o17 p li (by omega) z3 z4
    rw [o10, z5] at hla
    have hlb := o17 li q (by omega) hlq hq.2
    rw [z5] at hlb
    have gl : g_at Gc la (110, 10) := by rw [← z5]; exact (o16 li z3 z4).1.2.1
    rw [if_neg (by omega)]
    have hli : li ≠ -4 := by omega
    rw [if_neg hli] at hc1
    have i52 : a_into σc p li q 52 li = q := by unfold a_into; rw [if_neg hli]; simp (disch := omega) only [e3_up_self, e3_up_ne]
    have i52' : ∀ k, k ≠ li → a_into σc p li q 52 k = σc 52 k := by intro k hk; unfold a_into; rw [if_neg hli]; simp (disch := omega) only [e3_up_self, e3_up_ne]
    have i51 : ∀ k, a_into σc p li q 51 k = σc 51 k := by intro k; unfold a_into; rw [if_neg hli]; simp (disch := omega) only [e3_up_self, e3_up_ne]
    have i55 : ∀ k, k ≠ p → a_into σc p li q 55 k = σc 55 k := by intro k hk; unfold a_into; rw [if_neg hli]; simp (disch := omega) only [e3_up_self, e3_up_ne]
    have irow : ∀ a q' : Int, q' ≠ p → q' ≠ li → a_into σc p li q a q' = σc a q' := by
      intro a q' hz hz2
      unfold a_into; rw [if_neg hli, e3_up_ne (by omega), e3_up_ne (by omega)]
    have kne : ∀ b k : Int, ¬ (b = la ∧ k = 8) → (e3_up Kc la 8 (gc 0 q)) b k = Kc b k := fun b k hz => e3_up_ne hz
    have hpa := c_M_pa o1 gl
    have e7 : (e3_up Kc la 8 (gc 0 q)) fu 7 = Kc fu 7 := kne _ _ (by omega)
    refine ⟨xσ (c_M_up o1 gl (by omega)), c_E_up o2 (by omega) (by omega) (by omega) hl139 (by omega), ⟨fr_into o3 (by omega) (Or.inr (by omega)), p_into o4 (by omega) (by omega), (nm_into o5).1, by rw [x16]; exact o6, by rw [x16]; exact o7, o8⟩, ⟨?_, o10, ?_, ?_, ?_, ?_⟩, ?_, ⟨fun q' q0 q1 => ?_, fun q' q2 y1 y2 y3 => o17 q' q2 y1 y2 (by rw [x16] at y3; exact y3)⟩, ⟨?_, ?_⟩, Or.inr ⟨l, rfl, fun c hc => ?_, hq.1, by rw [x16]; exact hq.2, rfl, by rw [i52' q (by omega)]; exact h52, hc2⟩, ⟨o21, o22, o23⟩, ?_⟩
    · exact c_p0_keep o9 ⟨[], by rw [List.append_nil]⟩ (fun a a1 a2 => xrow a p (by omega) (by omega) (by omega)) xrn (by rw [x56]; omega) rfl rfl (fun _ _ _ => rfl) (by rw [e7]; omega) (fun k hk => kne _ _ (by omega))
    · rw [kne _ _ (by omega)]; exact o11
    · rw [xrow _ _ (by omega) (by omega) (by omega)]; exact o12
    · rw [kne _ _ (by omega)]; exact o13
    · rw [i52' p (by omega)]; exact o14
    · rw [x16]
      exact c_l1_keep o15 (xrow 46 p (by omega) (by omega) (by omega)) (i51 p) hgr o7 (by omega) (kne _ _ (by omega))
    · rw [x16] at q1 ⊢
      rw [e7]
      by_cases hz : q' = li
      · subst hz
        obtain ⟨p1, p2, p3, p4, p5⟩ := o16 q' q0 q1
        have ne : gc 0 q' = la := z5
        refine ⟨c_p0_keep p1 ⟨[], by rw [List.append_nil]⟩ (fun a a1 a2 => xrow a q' (by omega) (by omega) (by omega)) xrn (by rw [x56]; omega) rfl rfl (fun _ _ _ => rfl) (by omega) (fun k hk => kne _ _ (by omega)), c_pa_keep p2 (xrow 54 q' (by omega) (by omega) (by omega)) xrn (by rw [x56]; omega) rfl (kne _ _ (by omega)), c_l1_keep p3 (xrow 46 q' (by omega) (by omega) (by omega)) (i51 q') hgr q1 (by omega) (kne _ _ (by omega)), ⟨?_, Or.inr ⟨?_, ?_, ?_, ?_⟩⟩, ?_⟩
        · rw [ne, e3_up_self, i52, c_lk_q (by omega)]
        · rw [i52]; exact hlq
        · rw [i52]; exact hq.2
        · rw [i52, z7]; exact hc1
        · rw [i52, z7]; exact hc2
        · rw [kne _ _ (by omega), i55 q' (by omega)]; exact p5
      · have hne : gc 0 q' ≠ la := by
          rw [← z5]
          rcases Int.lt_or_gt_of_ne hz with hy | hy
          · have := o17 q' li (by omega) hy z4; omega
          · have := o17 li q' (by omega) hy q1; omega
        exact c_pt_keep (o16 q' q0 q1) ⟨[], by rw [List.append_nil]⟩ (fun a _ _ => irow a q' (by omega) hz) xrn (by rw [x56]; omega) hgr (fun _ _ _ => rfl) (by omega) q1 (by omega) (fun k => kne _ _ (by omega))
    · rw [kne _ 7 (by omega), z1]
      rw [z1] at o18
      refine chn_snoc l' _ o18 (fun c hc => kne _ _ (by have := z2 c hc; omega)) (by rw [e3_up_self]) ?_
      rw [kne _ _ (by omega), n8]
      decide
    · rw [x16]; exact hmem
    · rw [z1] at hc
      rcases List.mem_append.mp hc with hc | hc
      · have := z2 c hc; omega
      · rw [List.mem_singleton] at hc; omega
    · rw [xrow 46 p (by omega) (by omega) (by omega)]; exact o24
end COP
