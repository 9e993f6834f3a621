/-- what reading patterns may change of the class's memory -/
def c_E (ru fu : Int) (H : e3_H) (G : e3_G) (K : e3_H) (G2 : e3_G) : Prop :=
  (∃ E, G2 = G ++ E) ∧ (∀ a k : Int, a < G.length → a ≠ 3 → a ≠ 14 → a ≠ ru → a ≠ H ru 5 → a ≠ fu → a ≠ H fu 8 → a ≠ H fu 9 → K a k = H a k) ∧ (∀ k : Int, k < 6 → K 3 k = H 3 k) ∧ (∀ k : Int, k ≠ 4 → k ≠ 5 → K 14 k = H 14 k) ∧ (∀ k : Int, k ≠ 4 → k ≠ 6 → K ru k = H ru k) ∧ (∀ k : Int, k ≠ 7 → k ≠ 8 → k ≠ 9 → K fu k = H fu k) ∧ (K fu 8 = H fu 8 ∨ G.length ≤ K fu 8) ∧ (K fu 9 = H fu 9 ∨ G.length ≤ K fu 9) ∧ H fu 7 ≤ K fu 7 ∧ H ru 4 ≤ K ru 4 ∧ ∀ k : Int, 0 ≤ k → k < H ru 4 → K (H ru 5) k = H (H ru 5) k
/-- TOKENS, KINDS, the rule's NAMES and the FUNCTION's places stand as told -/
def c_M (t : Int → Int) (n s i m : Nat) (ru fu : Int) (σ : e3_H) (cx : Int → Int) (H : e3_H) (G : e3_G) : Prop := c_tk t n s i H ∧ c_kd σ m H ∧ c_rl σ H G ru ∧ c_pl H G fu cx ∧ H 14 6 = fu
theorem c_E_rf (ru fu : Int) (H : e3_H) (G : e3_G) : c_E ru fu H G H G := ⟨⟨[], by rw [List.append_nil]⟩, fun _ _ _ _ _ _ _ _ _ _ => rfl, fun _ _ => rfl, fun _ _ _ => rfl, fun _ _ _ => rfl, fun _ _ _ _ => rfl, Or.inl rfl, Or.inl rfl, by omega, by omega, fun _ _ _ => rfl⟩
section CM
variable {t : Int → Int} {n s i m : Nat} {ru fu : Int} {σ : e3_H} {cx : Int → Int} {H K : e3_H} {G G2 : e3_G}
theorem c_E_len (h : c_E ru fu H G K G2) : (G.length : Int) ≤ G2.length := by
  obtain ⟨E, e⟩ := h.1
  rw [e, List.length_append]
  omega
theorem c_E_tr {K2 : e3_H} {G3 : e3_G} (hr : ru < G.length) (hrn : H ru 5 < G.length) (hf : fu < G.length) (h : c_E ru fu H G K G2) (h2 : c_E ru fu K G2 K2 G3) : c_E ru fu H G K2 G3 := by
  have hl := c_E_len h
  obtain ⟨⟨E1, x1⟩, a2, a3, a4, a5, a6, a7, a8, a9, a10, a11⟩ := h
  obtain ⟨⟨E2, y1⟩, b2, b3, b4, b5, b6, b7, b8, b9, b10, b11⟩ := h2
  have e5 : K ru 5 = H ru 5 := a5 5 (by decide) (by decide)
  rw [e5] at b2 b11
  refine ⟨⟨E1 ++ E2, by rw [y1, x1, List.append_assoc]⟩, fun a k z1 z2 z3 z4 z5 z6 z7 z8 => ?_, fun k hk => (b3 k hk).trans (a3 k hk), fun k k4 k5 => (b4 k k4 k5).trans (a4 k k4 k5), fun k k4 k5 => (b5 k k4 k5).trans (a5 k k4 k5), fun k k7 k8 k9 => (b6 k k7 k8 k9).trans (a6 k k7 k8 k9), by omega, by omega, by omega, by omega, fun k k0 k1 => ?_⟩
  · rw [b2 a k (by omega) z2 z3 z4 z5 z6 (by omega) (by omega)]
    exact a2 a k z1 z2 z3 z4 z5 z6 z7 z8
  · rw [b11 k k0 (by omega)]
    exact a11 k k0 k1
theorem c_E_up {a j v : Int} (h : c_E ru fu H G K G2) (hr : ru < G.length) (hrn : H ru 5 < G.length) (hf : fu < G.length) (h139 : 139 ≤ (G.length : Int)) (ha : G.length ≤ a) : c_E ru fu H G (e3_up K a j v) G2 := by
  obtain ⟨x1, a2, a3, a4, a5, a6, a7, a8, a9, a10, a11⟩ := h
  refine ⟨x1, fun b k z1 z2 z3 z4 z5 z6 z7 z8 => ?_, fun k hk => ?_, fun k k4 k5 => ?_, fun k k4 k5 => ?_, fun k k7 k8 k9 => ?_, ?_, ?_, ?_, ?_, fun k k0 k1 => ?_⟩
  · rw [e3_up_ne (by omega)]; exact a2 b k z1 z2 z3 z4 z5 z6 z7 z8
  · rw [e3_up_ne (by omega)]; exact a3 k hk
  · rw [e3_up_ne (by omega)]; exact a4 k k4 k5
  · rw [e3_up_ne (by omega)]; exact a5 k k4 k5
  · rw [e3_up_ne (by omega)]; exact a6 k k7 k8 k9
  · rw [e3_up_ne (by omega)]; exact a7
  · rw [e3_up_ne (by omega)]; exact a8
  · rw [e3_up_ne (by omega)]; exact a9
  · rw [e3_up_ne (by omega)]; exact a10
  · rw [e3_up_ne (by omega)]; exact a11 k k0 k1
theorem c_E_nw {e : Nat × Nat} {φ : Int → Int} (h : c_E ru fu H G K G2) (hr : ru < G.length) (hrn : H ru 5 < G.length) (hf : fu < G.length) (h139 : 139 ≤ (G.length : Int)) : c_E ru fu H G (e3_nw K G2.length φ) (G2 ++ [e]) := by
  have hl := c_E_len h
  obtain ⟨⟨E1, x1⟩, a2, a3, a4, a5, a6, a7, a8, a9, a10, a11⟩ := h
  refine ⟨⟨E1 ++ [e], by rw [x1, List.append_assoc]⟩, fun b k z1 z2 z3 z4 z5 z6 z7 z8 => ?_, fun k hk => ?_, fun k k4 k5 => ?_, fun k k4 k5 => ?_, fun k k7 k8 k9 => ?_, ?_, ?_, ?_, ?_, fun k k0 k1 => ?_⟩
  · rw [nw_ne (by omega)]; exact a2 b k z1 z2 z3 z4 z5 z6 z7 z8
  · rw [nw_ne (by omega)]; exact a3 k hk
  · rw [nw_ne (by omega)]; exact a4 k k4 k5
  · rw [nw_ne (by omega)]; exact a5 k k4 k5
  · rw [nw_ne (by omega)]; exact a6 k k7 k8 k9
  · rw [nw_ne (by omega)]; exact a7
  · rw [nw_ne (by omega)]; exact a8
  · rw [nw_ne (by omega)]; exact a9
  · rw [nw_ne (by omega)]; exact a10
  · rw [nw_ne (by omega)]; exact a11 k k0 k1
theorem c_E_C {K2 : e3_H} (h : c_E ru fu H G K G2) (hr : 139 ≤ ru) (hrn : 139 ≤ H ru 5) (hf : 139 ≤ fu) (h2 : x_C K K2) : c_E ru fu H G K2 G2 := by
  obtain ⟨x1, a2, a3, a4, a5, a6, a7, a8, a9, a10, a11⟩ := h
  have at2 : ∀ a k : Int, a ≠ 3 → K2 a k = K a k := fun a k ha => h2.1 a k (by simp only [List.mem_cons, List.not_mem_nil, or_false]; exact ha)
  refine ⟨x1, fun b k z1 z2 z3 z4 z5 z6 z7 z8 => ?_, fun k hk => ?_, fun k k4 k5 => ?_, fun k k4 k5 => ?_, fun k k7 k8 k9 => ?_, ?_, ?_, ?_, ?_, fun k k0 k1 => ?_⟩
  · rw [at2 b k z2]; exact a2 b k z1 z2 z3 z4 z5 z6 z7 z8
  · rw [h2.2 k hk]; exact a3 k hk
  · rw [at2 _ _ (by omega)]; exact a4 k k4 k5
  · rw [at2 _ _ (by omega)]; exact a5 k k4 k5
  · rw [at2 _ _ (by omega)]; exact a6 k k7 k8 k9
  · rw [at2 _ _ (by omega)]; exact a7
  · rw [at2 _ _ (by omega)]; exact a8
  · rw [at2 _ _ (by omega)]; exact a9
  · rw [at2 _ _ (by omega)]; exact a10
  · rw [at2 _ _ (by omega)]; exact a11 k k0 k1
theorem c_E_f {K2 : e3_H} {pl : Int} (h : c_E ru fu H G K G2) (hr : 139 ≤ ru) (hrn : 139 ≤ H ru 5) (hf : 139 ≤ fu) (h2 : c_flt pl K K2) : c_E ru fu H G K2 G2 := by
  obtain ⟨x1, a2, a3, a4, a5, a6, a7, a8, a9, a10, a11⟩ := h
  obtain ⟨_, _, f1, f2⟩ := h2
  have at2 : ∀ a k : Int, a ≠ 14 → K2 a k = K a k := fun a k ha => f2 a k (by simp only [List.mem_cons, List.not_mem_nil, or_false]; exact ha)
  refine ⟨x1, fun b k z1 z2 z3 z4 z5 z6 z7 z8 => ?_, fun k hk => ?_, fun k k4 k5 => ?_, fun k k4 k5 => ?_, fun k k7 k8 k9 => ?_, ?_, ?_, ?_, ?_, fun k k0 k1 => ?_⟩
  · rw [at2 b k z3]; exact a2 b k z1 z2 z3 z4 z5 z6 z7 z8
  · rw [at2 _ _ (by omega)]; exact a3 k hk
  · rw [f1 k k4 k5]; exact a4 k k4 k5
  · rw [at2 _ _ (by omega)]; exact a5 k k4 k5
  · rw [at2 _ _ (by omega)]; exact a6 k k7 k8 k9
  · rw [at2 _ _ (by omega)]; exact a7
  · rw [at2 _ _ (by omega)]; exact a8
  · rw [at2 _ _ (by omega)]; exact a9
  · rw [at2 _ _ (by omega)]; exact a10
  · rw [at2 _ _ (by omega)]; exact a11 k k0 k1
theorem c_E_pl {K2 : e3_H} {G3 : e3_G} (hr : ru < G.length) (hrn : H ru 5 < G.length) (hf : fu < G.length) (h139 : 139 ≤ ru ∧ 139 ≤ H ru 5 ∧ 139 ≤ fu ∧ ru ≠ fu ∧ H ru 5 ≠ fu) (h : c_E ru fu H G K G2) (hk : 139 ≤ K fu 8 ∧ 139 ≤ K fu 9 ∧ ru ≠ K fu 8 ∧ ru ≠ K fu 9 ∧ H ru 5 ≠ K fu 8 ∧ H ru 5 ≠ K fu 9) (h2 : pl_fr fu K G2 K2 G3) (h7 : K fu 7 ≤ K2 fu 7) : c_E ru fu H G K2 G3 := by
  have hl := c_E_len h
  refine c_E_tr hr hrn hf h ?_
  have e5 : K ru 5 = H ru 5 := h.2.2.2.2.1 5 (by decide) (by decide)
  obtain ⟨y1, b2, b3, b4, b5⟩ := h2
  refine ⟨y1, fun a k z1 z2 z3 z4 z5 z6 z7 z8 => b2 a k z1 z6 z7 z8, fun k hk2 => b2 3 k (by omega) (by omega) (by omega) (by omega), fun k k4 k5 => b2 14 k (by omega) (by omega) (by omega) (by omega), fun k k4 k5 => b2 ru k (by omega) (by omega) (by omega) (by omega), b3, b4, b5, h7, ?_, fun k k0 k1 => ?_⟩
  · rw [b2 ru 4 (by omega) (by omega) (by omega) (by omega)]; omega
  · rw [e5]; exact b2 _ k (by omega) (by omega) (by omega) (by omega)
theorem c_tk_eq (h : c_tk t n s i H) (he : ∀ a k : Int, a = 3 ∨ a = 5 ∨ a = 6 ∨ a = 7 → K a k = H a k) : c_tk t n s i K := by
  obtain ⟨h1, h2, h3, h4, h5, h6, h7, h8, h9, h10⟩ := h
  refine ⟨by rw [he 3 5 (by omega), h1], h2, ?_, h4, h5, by rw [he 3 6 (by omega), h6], h7, by rw [he 3 7 (by omega), he 5 i (by omega), h8], by rw [he 3 8 (by omega), he 6 i (by omega), h9], by rw [he 3 9 (by omega), he 7 i (by omega), h10]⟩
  intro j hj
  rw [he 5 j (by omega), he 6 j (by omega), he 7 j (by omega)]
  exact h3 j hj
theorem c_rl_eq {E : e3_G} (h : c_rl σ H G ru) (he : ∀ a k : Int, (a = 14 ∧ k = 7) ∨ a = ru ∨ a = H ru 5 → K a k = H a k) : c_rl σ K (G ++ E) ru := by
  obtain ⟨h1, h2, h3, h4, h5, h6, h7, h8, h9⟩ := h
  have e5 : K ru 5 = H ru 5 := he ru 5 (by omega)
  refine ⟨by rw [he 14 7 (by omega)]; exact h1, h2, ga_app h3, by rw [e5]; exact h4, by rw [e5]; exact ga_app h5, by rw [he ru 4 (by omega)]; exact h6, fun k hk => ?_, by rw [he ru 6 (by omega)]; exact h8, h9⟩
  rw [e5, he _ _ (by omega)]
  exact h7 k hk
theorem c_pl_eq {E : e3_G} (h : c_pl H G fu cx) (he : ∀ a k : Int, a = fu ∨ a = H fu 8 ∨ a = H fu 9 → K a k = H a k) : c_pl K (G ++ E) fu cx := by
  obtain ⟨h1, h2, L, h3, h4, h5, h6, h7, h8, h9⟩ := h
  have e7 : K fu 7 = H fu 7 := he fu 7 (by omega)
  have e8 : K fu 8 = H fu 8 := he fu 8 (by omega)
  have e9 : K fu 9 = H fu 9 := he fu 9 (by omega)
  refine ⟨h1, ga_app h2, L, by rw [e8]; exact ⟨h3.1, ga_app h3.2⟩, by rw [e9]; exact ⟨h4.1, ga_app h4.2⟩, by rw [e8, e9]; exact h5, by rw [e7]; exact h6, by rw [e7]; exact h7, fun p hp => ?_, fun p q hp hq => ?_⟩
  · rw [e7] at hp
    unfold c_p1
    rw [e8, e9, he _ _ (by omega), he _ _ (by omega)]
    exact h8 p hp
  · rw [e7] at hp hq
    exact h9 p q hp hq
theorem c_M_eq {E : e3_G} (h : c_M t n s i m ru fu σ cx H G) (he : ∀ a k : Int, (a = 3 ∨ (5 ≤ a ∧ a ≤ 13)) ∨ (a = 14 ∧ (k = 6 ∨ k = 7)) ∨ a = ru ∨ a = H ru 5 ∨ a = fu ∨ a = H fu 8 ∨ a = H fu 9 → K a k = H a k) : c_M t n s i m ru fu σ cx K (G ++ E) := by
  obtain ⟨h1, h2, h3, h4, h5⟩ := h
  exact ⟨c_tk_eq h1 (fun a k ha => he a k (by omega)), ckd_eq h2 (fun a k ha => he a k (by omega)), c_rl_eq h3 (fun a k ha => he a k (by omega)), c_pl_eq h4 (fun a k ha => he a k (by omega)), by rw [he 14 6 (by omega)]; exact h5⟩
/-- addresses of the rule and of the FUNCTION -/
theorem c_M_ad (h : c_M t n s i m ru fu σ cx H G) : (139 ≤ ru ∧ ru < G.length) ∧ (139 ≤ H ru 5 ∧ H ru 5 < G.length) ∧ (139 ≤ fu ∧ fu < G.length) ∧ (139 ≤ H fu 8 ∧ H fu 8 < G.length) ∧ (139 ≤ H fu 9 ∧ H fu 9 < G.length) ∧ (ru ≠ fu ∧ H ru 5 ≠ fu ∧ ru ≠ H fu 8 ∧ ru ≠ H fu 9 ∧ H ru 5 ≠ H fu 8 ∧ H ru 5 ≠ H fu 9 ∧ ru ≠ H ru 5 ∧ fu ≠ H fu 8 ∧ fu ≠ H fu 9) := by
  obtain ⟨_, _, ⟨h1, h2, h3, h4, h5, _⟩, ⟨q1, q2, L, q3, q4, q5, _⟩, _⟩ := h
  exact ⟨⟨h2, ga_lt h3⟩, ⟨h4, ga_lt h5⟩, ⟨q1, ga_lt q2⟩, ⟨q3.1, ga_lt q3.2⟩, ⟨q4.1, ga_lt q4.2⟩, ga_ne h3 q2 (by decide), ga_ne h5 q2 (by decide), ga_ne h3 q3.2 (by decide), ga_ne h3 q4.2 (by decide), ga_ne h5 q3.2 (by decide), ga_ne h5 q4.2 (by decide), ga_ne h3 h5 (by decide), ga_ne q2 q3.2 (by decide), ga_ne q2 q4.2 (by decide)⟩
/-- a pattern's address is none of them -/
theorem c_M_pa {a : Int} (h : c_M t n s i m ru fu σ cx H G) (ha : g_at G a (110, 10)) : a ≠ ru ∧ a ≠ H ru 5 ∧ a ≠ fu ∧ a ≠ H fu 8 ∧ a ≠ H fu 9 := by
  obtain ⟨_, _, ⟨h1, h2, h3, h4, h5, _⟩, ⟨q1, q2, L, q3, q4, q5, _⟩, _⟩ := h
  exact ⟨ga_ne ha h3 (by decide), ga_ne ha h5 (by decide), ga_ne ha q2 (by decide), ga_ne ha q3.2 (by decide), ga_ne ha q4.2 (by decide)⟩
theorem c_M_up {a j v : Int} (h : c_M t n s i m ru fu σ cx H G) (ha : g_at G a (110, 10)) (h139 : 139 ≤ a) : c_M t n s i m ru fu σ cx (e3_up H a j v) G := by
  have hp := c_M_pa h ha
  have hd := c_M_ad h
  have := c_M_eq (E := []) (K := e3_up H a j v) h (fun b k hb => e3_up_ne (by omega))
  rw [List.append_nil] at this
  exact this
theorem c_M_nw {e : Nat × Nat} {φ : Int → Int} (h : c_M t n s i m ru fu σ cx H G) : c_M t n s i m ru fu σ cx (e3_nw H G.length φ) (G ++ [e]) := by
  have hd := c_M_ad h
  exact c_M_eq h (fun b k hb => nw_ne (by omega))
theorem c_M_s {K2 : e3_H} (h : c_M t n s i m ru fu σ cx H G) (a : c_tk t n s (i + 1) K2) (b : x_C H K2) : c_M t n s (i + 1) m ru fu σ cx K2 G := by
  have hd := c_M_ad h
  have at2 : ∀ a k : Int, a ≠ 3 → K2 a k = H a k := fun a k ha => b.1 a k (by simp only [List.mem_cons, List.not_mem_nil, or_false]; exact ha)
  obtain ⟨h1, h2, h3, h4, h5⟩ := h
  have x3 := c_rl_eq (E := []) (K := K2) h3 (fun a k ha => at2 a k (by omega))
  have x4 := c_pl_eq (E := []) (K := K2) h4 (fun a k ha => at2 a k (by omega))
  rw [List.append_nil] at x3 x4
  exact ⟨a, ckd_eq h2 (fun a k ha => at2 a k (by omega)), x3, x4, by rw [at2 14 6 (by omega)]; exact h5⟩
theorem c_M_σ {σ2 : e3_H} (h : c_M t n s i m ru fu σ cx H G) (e42 : σ2 42 = σ 42) (e43 : σ2 43 = σ 43) (e44 : σ2 44 = σ 44) (e45 : σ2 45 = σ 45) (e27 : σ2 40 27 = σ 40 27) (e31 : σ2 40 31 = σ 40 31) (e56 : σ2 56 = σ 56) (e57 : σ2 57 = σ 57) (e58 : σ2 58 = σ 58) : c_M t n s i m ru fu σ2 cx H G := by
  obtain ⟨h1, h2, h3, h4, h5⟩ := h
  refine ⟨h1, ?_, ?_, h4, h5⟩
  · unfold c_kd
    rw [e42, e43, e44, e45]
    exact h2
  · unfold c_rl a_ds a_rn a_nm c_nm
    rw [e27, e31, e56, e57, e58]
    exact h3
end CM
