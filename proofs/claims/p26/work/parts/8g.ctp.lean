/-- what reading rules may change of the class's memory -/
def c_F (fu : Int) (H : e3_H) (G : e3_G) (K : e3_H) (G2 : e3_G) : Prop := (∃ E, G2 = G ++ E) ∧ (∀ a k : Int, a < G.length → a ≠ 3 → a ≠ 14 → a ≠ fu → a ≠ H fu 8 → a ≠ H fu 9 → K a k = H a k) ∧ (∀ k : Int, k < 6 → K 3 k = H 3 k) ∧ (∀ k : Int, k ≠ 4 → k ≠ 5 → k ≠ 7 → K 14 k = H 14 k) ∧ (∀ k : Int, k ≠ 7 → k ≠ 8 → k ≠ 9 → K fu k = H fu k) ∧ (K fu 8 = H fu 8 ∨ G.length ≤ K fu 8) ∧ (K fu 9 = H fu 9 ∨ G.length ≤ K fu 9) ∧ H fu 7 ≤ K fu 7
section CFF
variable {ru fu : Int} {H K K2 : e3_H} {G G2 G3 : e3_G}
theorem c_F_rf (fu : Int) (H : e3_H) (G : e3_G) : c_F fu H G H G := ⟨⟨[], by rw [List.append_nil]⟩, fun _ _ _ _ _ _ _ _ => rfl, fun _ _ => rfl, fun _ _ _ _ => rfl, fun _ _ _ _ => rfl, Or.inl rfl, Or.inl rfl, by omega⟩
theorem c_F_len (h : c_F fu H G K G2) : (G.length : Int) ≤ G2.length := by
  obtain ⟨E, e⟩ := h.1
  rw [e, List.length_append]
  omega
theorem c_F_E (h : c_F fu H G K G2) (hf : 139 ≤ fu ∧ fu < G.length) (hr : G.length ≤ ru) (hn : G.length ≤ K ru 5) (h2 : c_E ru fu K G2 K2 G3) : c_F fu H G K2 G3 := by
  have hl := c_F_len h
  obtain ⟨⟨E1, x1⟩, a2, a3, a4, a5, a6, a7, a8⟩ := h
  obtain ⟨⟨E2, y1⟩, b2, b3, b4, b5, b6, b7, b8, b9, b10, b11⟩ := h2
  refine ⟨⟨E1 ++ E2, by rw [y1, x1, List.append_assoc]⟩, fun a k z1 z2 z3 z4 z5 z6 => ?_, fun k hk => (b3 k hk).trans (a3 k hk), fun k k4 k5 k7 => (b4 k k4 k5).trans (a4 k k4 k5 k7), fun k k7 k8 k9 => (b6 k k7 k8 k9).trans (a5 k k7 k8 k9), by omega, by omega, by omega⟩
  rw [b2 a k (by omega) z2 z3 (by omega) (by omega) z4 (by omega) (by omega)]
  exact a2 a k z1 z2 z3 z4 z5 z6
theorem c_F_up {a j v : Int} (h : c_F fu H G K G2) (hf : 139 ≤ fu ∧ fu < G.length) (ha : G.length ≤ a) : c_F fu H G (e3_up K a j v) G2 := by
  obtain ⟨x1, a2, a3, a4, a5, a6, a7, a8⟩ := h
  refine ⟨x1, fun b k z1 z2 z3 z4 z5 z6 => ?_, fun k hk => ?_, fun k k4 k5 k7 => ?_, fun k k7 k8 k9 => ?_, ?_, ?_, ?_⟩
  · rw [e3_up_ne (by omega)]; exact a2 b k z1 z2 z3 z4 z5 z6
  · rw [e3_up_ne (by omega)]; exact a3 k hk
  · rw [e3_up_ne (by omega)]; exact a4 k k4 k5 k7
  · rw [e3_up_ne (by omega)]; exact a5 k k7 k8 k9
  · rw [e3_up_ne (by omega)]; exact a6
  · rw [e3_up_ne (by omega)]; exact a7
  · rw [e3_up_ne (by omega)]; exact a8
theorem c_F_C (h : c_F fu H G K G2) (hf : 139 ≤ fu) (h2 : x_C K K2) : c_F fu H G K2 G2 := by
  obtain ⟨x1, a2, a3, a4, a5, a6, a7, a8⟩ := h
  have at2 : ∀ a k : Int, a ≠ 3 → K2 a k = K a k := fun a k ha => h2.1 a k (by simp only [List.mem_cons, List.not_mem_nil, or_false]; exact ha)
  refine ⟨x1, fun b k z1 z2 z3 z4 z5 z6 => ?_, fun k hk => ?_, fun k k4 k5 k7 => ?_, fun k k7 k8 k9 => ?_, ?_, ?_, ?_⟩
  · rw [at2 _ _ z2]; exact a2 b k z1 z2 z3 z4 z5 z6
  · rw [h2.2 k hk]; exact a3 k hk
  · rw [at2 _ _ (by omega)]; exact a4 k k4 k5 k7
  · rw [at2 _ _ (by omega)]; exact a5 k k7 k8 k9
  · rw [at2 _ _ (by omega)]; exact a6
  · rw [at2 _ _ (by omega)]; exact a7
  · rw [at2 _ _ (by omega)]; exact a8
theorem c_F_f {pl : Int} (h : c_F fu H G K G2) (hf : 139 ≤ fu) (h2 : c_flt pl K K2) : c_F fu H G K2 G2 := by
  obtain ⟨x1, a2, a3, a4, a5, a6, a7, a8⟩ := h
  obtain ⟨_, _, f1, f2⟩ := h2
  have at2 : ∀ a k : Int, a ≠ 14 → K2 a k = K a k := fun a k ha => f2 a k (by simp only [List.mem_cons, List.not_mem_nil, or_false]; exact ha)
  refine ⟨x1, fun b k z1 z2 z3 z4 z5 z6 => ?_, fun k hk => ?_, fun k k4 k5 k7 => ?_, fun k k7 k8 k9 => ?_, ?_, ?_, ?_⟩
  · rw [at2 _ _ z3]; exact a2 b k z1 z2 z3 z4 z5 z6
  · rw [at2 _ _ (by omega)]; exact a3 k hk
  · rw [f1 k k4 k5]; exact a4 k k4 k5 k7
  · rw [at2 _ _ (by omega)]; exact a5 k k7 k8 k9
  · rw [at2 _ _ (by omega)]; exact a6
  · rw [at2 _ _ (by omega)]; exact a7
  · rw [at2 _ _ (by omega)]; exact a8
end CFF
/-- a rule while its patterns are read -/
def c_tp (t : Int → Int) (n s m : Nat) (ru fu : Int) (H : e3_H) (G : e3_G) (σ0 g R0 : e3_H) (ic : Nat) (σc gc Kc : e3_H) (Gc : e3_G) (l : List Int) (li la : Int) : Prop :=
  c_M t n s ic m ru fu σc (gc 3) Kc Gc ∧ (c_F fu H G Kc Gc ∧ G.length ≤ ru ∧ (139 ≤ fu ∧ fu < G.length) ∧ c_sk ru Kc Gc) ∧ (p_inv σc m ic ∧ nm_inv (σ0 40 27) m σc ∧ σc 40 16 ≤ (ic : Int) ∧ σ0 40 16 ≤ σc 40 16 ∧ σc 40 27 = σ0 40 27 ∧ 0 ≤ σ0 40 16) ∧
  ((∀ q : Int, σ0 40 16 ≤ q → q < σc 40 16 → c_pt σc (σ0 40 27) gc Kc Gc (Kc fu 7) (σc 40 16) q ∧ G.length ≤ gc 0 q) ∧ ∀ q q2 : Int, σ0 40 16 ≤ q → q < q2 → q2 < σc 40 16 → gc 0 q < gc 0 q2) ∧
  (chn Kc (Kc ru 2) l ∧ ∀ c ∈ l, ∃ q : Int, σ0 40 16 ≤ q ∧ q < σc 40 16 ∧ gc 0 q = c) ∧
  ((l = [] ∧ li = -4 ∧ la = -1) ∨ ((∃ l' : List Int, l = l' ++ [la] ∧ (∀ c ∈ l', c < la)) ∧ (σ0 40 16 ≤ li ∧ li < σc 40 16 ∧ gc 0 li = la ∧ σc 52 li = -4 ∧ gc 2 li = 1) ∧ (Kc ru 2 = gc 0 (σc 72 (σ0 40 27)) ∧ σ0 40 16 ≤ σc 72 (σ0 40 27) ∧ σc 72 (σ0 40 27) < σc 40 16 ∧ gc 1 (σc 72 (σ0 40 27)) = 1 ∧ gc 2 (σc 72 (σ0 40 27)) = 1))) ∧
  c_g g gc (σ0 40 16) (H fu 7) ∧ (c_wy (wys Kc 1 l) (σc 74 (σ0 40 27)) ∧ (∀ k : Int, k ≠ 2 → (k ≠ 3 ∨ R0 0 0 = 1) → k ≠ 4 → k ≠ 6 → Kc ru k = R0 ru k) ∧ ∀ j k : Int, 2 ≤ j → j ≤ 6 → Kc (ru + j) k = R0 (ru + j) k)
section CTP
variable {t : Int → Int} {n s m : Nat} {ru fu : Int} {H : e3_H} {G : e3_G} {σ0 g R0 : e3_H} {ic : Nat} {σc gc Kc : e3_H} {Gc : e3_G} {l : List Int} {li la : Int}
/-- another pattern of the rule has been read -/
theorem c_tp_go {j : Nat} {σ3 K3 g3 : e3_H} {G3 : e3_G} {q fl code : Int} (h : c_tp t n s m ru fu H G σ0 g R0 ic σc gc Kc Gc l li la) (hk : c_ok2 t n s m ru fu ic σc gc Kc Gc fl code j σ3 q K3 G3 g3) (hfr : a_fr (σc 40 16) σc σ3) (hpi : p_inv σ3 m j) (hnm : nm_inv (σ0 40 27) m σ3) (h16 : σ3 40 16 ≤ (j : Int)) : c_tp t n s m ru fu H G σ0 g R0 j σ3 g3 K3 G3 l li la := by
  obtain ⟨o1, ⟨o2, o2b, o2c, o2d⟩, ⟨o3, o4, o5, o6, o7, o7b⟩, ⟨o8, o9⟩, ⟨o10, o11⟩, o12, o13, ⟨o14, o15, o16⟩⟩ := h
  obtain ⟨k1, k2, k3, k4, k5, k6, k7, k8, k9⟩ := hk
  obtain ⟨f1, f2, f3, f4, f5, f6, f7, f8⟩ := id hfr
  rw [o7] at f7 f8 k3
  have hl := c_F_len o2
  have hd := c_M_ad o1
  obtain ⟨s1, s2, ⟨s3, s3b⟩, ⟨s4, s4b⟩, ⟨s5, s5b⟩, ⟨s6, s6b⟩, ⟨s7, s7b⟩, ⟨s8, s8b⟩⟩ := id o2d
  have rk : ∀ k : Int, k ≠ 4 → k ≠ 6 → K3 ru k = Kc ru k := k2.2.2.2.2.1
  have kpat : ∀ q k : Int, σ0 40 16 ≤ q → q < σc 40 16 → K3 (gc 0 q) k = Kc (gc 0 q) k := by
    intro q k q0 q1
    have hp := (o8 q q0 q1).1.1
    have hpa := c_M_pa o1 hp.2.1
    have := hp.1
    exact k2.2.1 _ k (ga_lt hp.2.1) (by omega) (by omega) (by omega) (by omega) (by omega) (by omega) (by omega)
  have hfu : ∀ j : Int, 2 ≤ j → j ≤ 6 → ru + j ≠ fu ∧ ru + j ≠ Kc fu 8 ∧ ru + j ≠ Kc fu 9 ∧ ru + j < Gc.length := by
    intro j j2 j6
    have c1 : ∃ c n' : Nat, g_at Gc (ru + j) (c, n') ∧ n' < 16 ∧ c < 100 := by
      have hj : j = 2 ∨ j = 3 ∨ j = 4 ∨ j = 5 ∨ j = 6 := by omega
      rcases hj with hj | hj | hj | hj | hj <;> subst hj
      · exact ⟨0, 2, s4b, by omega, by omega⟩
      · exact ⟨0, 4, s5b, by omega, by omega⟩
      · exact ⟨0, 4, s6b, by omega, by omega⟩
      · exact ⟨0, 3, s7b, by omega, by omega⟩
      · exact ⟨0, 3, s8b, by omega, by omega⟩
    obtain ⟨c, n', h1, h2, h3⟩ := c1
    obtain ⟨q1, q2, L, q3, q4, q5, q6, _⟩ := o1.2.2.2.1
    refine ⟨ga_ne h1 q2 (by omega), ?_, ?_, ga_lt h1⟩
    · intro z
      rw [z] at h1
      have := (Prod.mk.inj (ga_eq h1 q3.2)).2
      omega
    · intro z
      rw [z] at h1
      have := (Prod.mk.inj (ga_eq h1 q4.2)).2
      omega
  refine ⟨k1, ⟨c_F_E o2 o2c o2b (by omega) k2, o2b, o2c, ?_⟩, ⟨hpi, hnm, h16, by omega, by rw [f2 27 (by omega) (by omega)]; exact o7, o7b⟩, ⟨fun q' q0 q1 => ?_, fun q' q2 y1 y2 y3 => ?_⟩, ⟨?_, fun c hc => ?_⟩, ?_, ⟨fun a k a0 a1 hk' => ?_, fun k k0 k1' => ?_⟩, ⟨?_, fun k k2' k3' k4' k6' => ?_, fun jj k j2 j6 => ?_⟩⟩
  · obtain ⟨E, rfl⟩ := k2.1
    refine ⟨s1, ga_app s2, ⟨by rw [rk 5 (by decide) (by decide)]; exact s3, ga_app s3b⟩, ⟨by rw [rk 8 (by decide) (by decide)]; exact s4, ga_app s4b⟩, ⟨by rw [rk 9 (by decide) (by decide)]; exact s5, ga_app s5b⟩, ⟨by rw [rk 10 (by decide) (by decide)]; exact s6, ga_app s6b⟩, ⟨by rw [rk 16 (by decide) (by decide)]; exact s7, ga_app s7b⟩, ⟨by rw [rk 17 (by decide) (by decide)]; exact s8, ga_app s8b⟩⟩
  · by_cases hz : q' < σc 40 16
    · exact ⟨c_pt_keep (o8 q' q0 hz).1 k2.1 (fun a a1 a2 => f4 a q' a1 a2 hz) f8 f7 k4.1 k4.2 k2.2.2.2.2.2.2.2.2.1 hz f1 (fun k => kpat q' k q0 hz), by rw [k4.1 0 q' (by omega) (by omega) hz]; exact (o8 q' q0 hz).2⟩
    · have := k3.1 q' (by omega) q1
      exact ⟨this.1, by have := this.2; omega⟩
  · by_cases hz : q2 < σc 40 16
    · rw [k4.1 0 q' (by omega) (by omega) (by omega), k4.1 0 q2 (by omega) (by omega) hz]; exact o9 q' q2 y1 y2 hz
    · by_cases hz2 : q' < σc 40 16
      · rw [k4.1 0 q' (by omega) (by omega) hz2]
        have h1 := ga_lt (o8 q' y1 hz2).1.1.2.1
        have h2 := (k3.1 q2 (by omega) y3).2
        omega
      · exact k3.2 q' q2 (by omega) y2 y3
  · rw [rk 2 (by decide) (by decide)]
    refine chn_eq l _ (fun c hc => ?_) o10
    obtain ⟨q', q0, q1, q2⟩ := o11 c hc
    rw [← q2]
    exact kpat q' 8 q0 q1
  · obtain ⟨q', q0, q1, q2⟩ := o11 c hc
    exact ⟨q', q0, by omega, by rw [k4.1 0 q' (by omega) (by omega) q1]; exact q2⟩
  · rcases o12 with hz | ⟨z1, ⟨z2, z3, z4, z5, z6⟩, ⟨z7, z8, z9, z10, z11⟩⟩
    · exact Or.inl hz
    · have e72 : σ3 72 (σ0 40 27) = σc 72 (σ0 40 27) := by rw [f3 72 (by omega) (by omega)]
      rw [e72]
      refine Or.inr ⟨z1, ⟨z2, by omega, by rw [k4.1 0 li (by omega) (by omega) z3]; exact z4, by rw [f4 52 li (by omega) (by omega) z3]; exact z5, by rw [k4.1 2 li (by omega) (by omega) z3]; exact z6⟩, ⟨?_, z8, by omega, ?_, ?_⟩⟩
      · rw [rk 2 (by decide) (by decide), k4.1 0 _ (by omega) (by omega) z9]; exact z7
      · rw [k4.1 1 _ (by omega) (by omega) z9]; exact z10
      · rw [k4.1 2 _ (by omega) (by omega) z9]; exact z11
  · rw [k4.1 a k a0 a1 (by omega)]; exact o13.1 a k a0 a1 hk'
  · have := o2.2.2.2.2.2.2.2
    rw [k4.2 k k0 (by omega)]; exact o13.2 k k0 k1'
  · rw [f3 74 (by omega) (by omega), wys_eq (H := Kc) l 1 (fun c hc => ?_)]
    · exact o14
    · obtain ⟨q', q0, q1, q2⟩ := o11 c hc
      rw [← q2]
      exact kpat q' 9 q0 q1
  · rw [rk k k4' k6']; exact o15 k k2' k3' k4' k6'
  · have hx := hfu jj j2 j6
    rw [k2.2.1 _ k hx.2.2.2 (by omega) (by omega) (by omega) (by omega) (by omega) (by omega) (by omega)]
    exact o16 jj k j2 j6
end CTP
