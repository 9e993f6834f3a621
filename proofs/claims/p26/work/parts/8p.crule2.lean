theorem gz_ru : gz g_ru = 127 := by decide
section CRU
variable {t : Int → Int} {n s m : Nat} {fu : Int}
theorem expect_tp {Q : Int → e3_H → e3_G → Prop} {ru : Int} {H : e3_H} {G : e3_G} {σ0 g R0 : e3_H} {ic : Nat} {σc gc Kc : e3_H} {Gc : e3_G} {l : List Int} {li la c : Int} (h : c_tp t n s m ru fu H G σ0 g R0 ic σc gc Kc Gc l li la) (hc : c ≠ 256 ∧ c ≠ 257) (h1 : x_ty t n ic = c → ∀ K2, c_tp t n s m ru fu H G σ0 g R0 (ic + 1) σc gc K2 Gc l li la → K2 fu 7 = Kc fu 7 → K2 fu 8 = Kc fu 8 → Q 1 K2 Gc) (h2 : x_ty t n ic ≠ c → ∀ K2, c_bF fu (x_sp t n ic) H G K2 Gc → Q 0 K2 Gc) : wR_expect Q c Kc Gc := by
  have nf3 : fu ≠ 3 := by have := h.2.1.2.2.1; omega
  refine cR_expect h.1.1 hc (fun he K2 a b => ?_) (fun he K2 hf => h2 he K2 ⟨hf.1, hf.2.1, c_F_f h.2.1.1 h.2.1.2.2.1.1 hf⟩)
  have at2 : ∀ a k : Int, a ≠ 3 → K2 a k = Kc a k := fun a k ha => b.1 a k (by simp only [List.mem_cons, List.not_mem_nil, or_false]; exact ha)
  exact h1 he K2 (c_tp_s h a b) (at2 _ _ nf3) (at2 _ _ nf3)
/-- a rule begins -/
theorem c_tp_new {H : e3_H} {G : e3_G} {σ g K H6 : e3_H} {ic : Nat} {r num spot : Int} (hr : 0 ≤ r ∧ r < 192) (htk : c_tk t n s ic H) (hkd : c_kd σ m H) (hpl : c_pl H G fu (g 3)) (h14 : H 14 6 = fu) (hp : p_w σ m) (h16 : σ 40 16 ≤ (ic : Int)) (hsk : c_sk G.length K (G ++ g_ru)) (hr0 : c_r0 G.length num spot K) (hK : ∀ b k : Int, b < G.length → K b k = H b k) (h139 : 139 ≤ (G.length : Int)) (e6 : H6 = e3_up K 14 7 G.length) : c_tp t n s m G.length fu H G (a_rule0 t n r ic σ) g H6 ic (a_rule0 t n r ic σ) g H6 (G ++ g_ru) [] (-4) (-1) := by
  obtain ⟨q1, q2, L, q3, q4, q5, q6, q7, q8, q9⟩ := id hpl
  have hfl := ga_lt q2
  have h8l := ga_lt q3.2
  have h9l := ga_lt q4.2
  obtain ⟨r0, r1, r2, r3, r4, r6, r7, r11, r12, r15, rA⟩ := hr0
  obtain ⟨s1, s2, ⟨s3, s3b⟩, ⟨s4, s4b⟩, ⟨s5, s5b⟩, ⟨s6, s6b⟩, ⟨s7, s7b⟩, ⟨s8, s8b⟩⟩ := id hsk
  have kl : ∀ b k : Int, b < G.length → ¬ (b = 14 ∧ k = 7) → H6 b k = H b k := fun b k hb hn => by rw [e6, e3_up_ne hn]; exact hK b k hb
  have kg : ∀ b k : Int, b ≠ 14 → H6 b k = K b k := fun b k hb => by rw [e6, e3_up_ne (ne_1 hb)]
  have z27 : a_rule0 t n r ic σ 40 27 = r := by unfold a_rule0; simp (disch := omega) only [e3_up_self, e3_up_ne]
  have z31 : a_rule0 t n r ic σ 40 31 = 0 := by unfold a_rule0; simp (disch := omega) only [e3_up_self, e3_up_ne]
  have z56 : a_rule0 t n r ic σ 56 r = 0 := by unfold a_rule0; simp (disch := omega) only [e3_up_self, e3_up_ne]
  have z74 : a_rule0 t n r ic σ 74 r = 1 := by unfold a_rule0; simp (disch := omega) only [e3_up_self, e3_up_ne]
  have z16 : a_rule0 t n r ic σ 40 16 = σ 40 16 := by unfold a_rule0; simp (disch := omega) only [e3_up_self, e3_up_ne]
  have zz : ∀ a : Int, 42 ≤ a → a ≤ 45 → a_rule0 t n r ic σ a = σ a := fun a a1 a2 => by funext k; unfold a_rule0; simp (disch := omega) only [e3_up_self, e3_up_ne]
  have bz : ∀ k : Nat, b_bit 0 k = false := by
    intro k
    unfold b_bit
    rw [Int.zero_ediv]
    rfl
  have r16 : (G.length : Int) ≠ 14 := by omega
  have nmz : a_nm (a_rule0 t n r ic σ) = 0 := by unfold a_nm; rw [z27, z56]; rfl
  refine ⟨⟨c_tk_eq htk (fun a k ha => kl a k (by omega) (by omega)), ?_, ⟨by rw [e6, e3_up_self], by omega, s2, by rw [kg _ _ r16, s3]; omega, by rw [kg _ _ r16, s3]; exact s3b, by rw [kg _ _ r16, r4, z27, z56], fun k hk => ?_, ?_, ?_⟩, c_pl_eq hpl (fun a k ha => kl a k (by omega) (by omega)), by rw [kl 14 6 (by omega) (by omega)]; exact h14⟩, ⟨⟨⟨g_ru, rfl⟩, fun a k ha _ h14' _ _ _ => kl a k ha (fun z => h14' z.1), fun k _ => kl 3 k (by omega) (by omega), fun k _ _ k7 => kl 14 k (by omega) (fun z => k7 z.2), fun k _ _ _ => kl fu k hfl (by omega), Or.inl (kl fu 8 hfl (by omega)), Or.inl (kl fu 9 hfl (by omega)), by rw [kl fu 7 hfl (by omega)]; omega⟩, by omega, ⟨q1, hfl⟩, ?_⟩, ⟨p_rule0 hp h16 hr, ⟨fun k _ hb => ?_, fun k hk => ?_⟩, by rw [z16]; exact h16, by omega, rfl, by rw [z16]; exact hp.2.1⟩, ⟨fun q y1 y2 => by omega, fun q q2 y1 y2 y3 => by omega⟩, ⟨?_, fun c hc => (List.not_mem_nil hc).elim⟩, Or.inl ⟨rfl, rfl, rfl⟩, ⟨fun _ _ _ _ _ => rfl, fun _ _ _ => rfl⟩, ⟨?_, fun _ _ _ _ _ => rfl, fun _ _ _ _ => rfl⟩⟩
  · have := ckd_eq (K2 := H6) hkd (fun a k ha => kl a k (by omega) (by omega))
    unfold c_kd at this ⊢
    rw [zz 42 (by omega) (by omega), zz 43 (by omega) (by omega), zz 44 (by omega) (by omega), zz 45 (by omega) (by omega)]
    exact this
  · rw [z27, z56] at hk; omega
  · rw [kg _ _ r16, r6]
    have : lb (c_nm (a_rule0 t n r ic σ)) 8 = lb (fun _ => 0) 8 := lb_congr (fun k _ => by unfold c_nm; rw [z31, bz k, if_neg (by decide)])
    rw [this]; rfl
  · rw [nmz]; intro x y hx; omega
  · unfold c_sk
    rw [kg _ _ r16, kg _ _ r16, kg _ _ r16, kg _ _ r16, kg _ _ r16, kg _ _ r16]
    exact hsk
  · rw [z31, bz k] at hb; cases hb
  · rw [z27, z56] at hk; omega
  · show H6 G.length 2 < 0
    rw [kg _ _ r16, r2]; decide
  · rw [z27, z74]
    show c_wy 1 1
    exact ⟨⟨by decide, by decide⟩, rfl⟩
end CRU
