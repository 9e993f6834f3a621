def g_3 (g : e3_H) (cx : Int → Int) : e3_H := fun b k => if b = 3 then cx k else g b k
theorem g_3_3 (g : e3_H) (cx : Int → Int) : g_3 g cx 3 = cx := by funext k; unfold g_3; rw [if_pos rfl]
theorem g_3_ne (g : e3_H) (cx : Int → Int) {b k : Int} (h : b ≠ 3) : g_3 g cx b k = g b k := by unfold g_3; rw [if_neg h]
section COQ
variable {t : Int → Int} {n s m : Nat} {ru fu : Int} {σ g H : e3_H} {G : e3_G} {fl0 code p fk : Int} {ic i : Nat} {σc gc Kc : e3_H} {Gc : e3_G} {l : List Int} {li la : Int}
theorem c_op_s {K2 : e3_H} (h : c_op t n s m ru fu σ g H G fl0 code p fk ic σc gc Kc Gc l li la) (hA : 139 ≤ ru ∧ 139 ≤ H ru 5 ∧ 139 ≤ fu) (a : c_tk t n s (ic + 1) K2) (b : x_C Kc K2) : c_op t n s m ru fu σ g H G fl0 code p fk (ic + 1) σc gc K2 Gc l li la := by
  obtain ⟨o1, o2, ⟨o3, o4, o5, o6, o7, o8⟩, ⟨o9, o10, o11, o12, o13, o14⟩, o15, ⟨o16, o17⟩, ⟨o18, o19⟩, o20, o21, o24⟩ := h
  have at2 : ∀ a k : Int, a ≠ 3 → K2 a k = Kc a k := fun a k ha => b.1 a k (by simp only [List.mem_cons, List.not_mem_nil, or_false]; exact ha)
  have hl139 : 139 ≤ (G.length : Int) := by rw [← o10]; exact o9.1
  have e7 : K2 fu 7 = Kc fu 7 := at2 fu 7 (by omega)
  have hgr : ∀ a k : Int, 0 ≤ a → a ≤ 2 → k < σc 40 16 → gc a k = gc a k := fun _ _ _ _ _ => rfl
  refine ⟨c_M_s o1 a b, c_E_C o2 hA.1 hA.2.1 hA.2.2 b, ⟨o3, p_inv_le o4 (by omega), o5, by omega, o7, o8⟩, ⟨?_, o10, by rw [at2 _ _ (by omega)]; exact o11, o12, by rw [at2 _ _ (by omega)]; exact o13, o14⟩, ?_, ⟨fun q q0 q1 => ?_, o17⟩, ⟨?_, o19⟩, o20, o21, o24⟩
  · rw [e7]; exact c_p0_keep o9 ⟨[], by rw [List.append_nil]⟩ (fun _ _ _ => rfl) (fun _ _ _ => rfl) (by omega) rfl rfl (fun _ _ _ => rfl) (by omega) (fun k _ => at2 _ _ (by have := o9.1; omega))
  · exact c_l1_keep o15 rfl rfl hgr o7 (by omega) (at2 _ _ (by have := o9.1; omega))
  · rw [e7]; exact c_pt_keep (o16 q q0 q1) ⟨[], by rw [List.append_nil]⟩ (fun _ _ _ => rfl) (fun _ _ _ => rfl) (by omega) hgr (fun _ _ _ => rfl) (by omega) q1 (by omega) (fun k => at2 _ _ (by have := (o16 q q0 q1).1.1; omega))
  · rw [at2 _ _ (by omega)]
    refine chn_eq l _ (fun c hc => ?_) o18
    obtain ⟨q, q0, q1, q2⟩ := o19 c hc
    exact at2 _ _ (by have := (o16 q q0 q1).1.1; omega)
/-- the open pattern's ways are written -/
theorem c_op_9 {v : Int} (h : c_op t n s m ru fu σ g H G fl0 code p fk ic σc gc Kc Gc l li la) (hA : (139 ≤ ru ∧ ru < G.length) ∧ (139 ≤ H ru 5 ∧ H ru 5 < G.length) ∧ (139 ≤ fu ∧ fu < G.length)) : c_op t n s m ru fu σ g H G fl0 code p fk ic σc gc (e3_up Kc G.length 9 v) Gc l li la := by
  obtain ⟨o1, o2, ⟨o3, o4, o5, o6, o7, o8⟩, ⟨o9, o10, o11, o12, o13, o14⟩, o15, ⟨o16, o17⟩, ⟨o18, o19⟩, o20, o21, o24⟩ := h
  have ga0 : g_at Gc (G.length : Int) (110, 10) := by rw [← o10]; exact o9.2.1
  have hl139 : 139 ≤ (G.length : Int) := by rw [← o10]; exact o9.1
  have kne : ∀ b k : Int, ¬ (b = G.length ∧ k = 9) → (e3_up Kc G.length 9 v) b k = Kc b k := fun b k hz => e3_up_ne hz
  have e7 : (e3_up Kc G.length 9 v) fu 7 = Kc fu 7 := kne _ _ (by omega)
  have hgr : ∀ a k : Int, 0 ≤ a → a ≤ 2 → k < σc 40 16 → gc a k = gc a k := fun _ _ _ _ _ => rfl
  refine ⟨c_M_up o1 ga0 hl139, c_E_up o2 (by omega) (by omega) (by omega) hl139 (by omega), ⟨o3, o4, o5, o6, o7, o8⟩, ⟨?_, o10, by rw [kne _ _ (by omega)]; exact o11, o12, by rw [kne _ _ (by omega)]; exact o13, o14⟩, ?_, ⟨fun q q0 q1 => ?_, o17⟩, ⟨?_, o19⟩, o20, o21, o24⟩
  · rw [e7]; exact c_p0_keep o9 ⟨[], by rw [List.append_nil]⟩ (fun _ _ _ => rfl) (fun _ _ _ => rfl) (by omega) rfl rfl (fun _ _ _ => rfl) (by omega) (fun k _ => kne _ _ (by omega))
  · exact c_l1_keep o15 rfl rfl hgr o7 (by omega) (kne _ _ (by omega))
  · have := o17 p q (by omega) q0 q1
    rw [e7]; exact c_pt_keep (o16 q q0 q1) ⟨[], by rw [List.append_nil]⟩ (fun _ _ _ => rfl) (fun _ _ _ => rfl) (by omega) hgr (fun _ _ _ => rfl) (by omega) q1 (by omega) (fun k => kne _ _ (by omega))
  · rw [kne _ _ (by omega)]
    refine chn_eq l _ (fun c hc => ?_) o18
    exact kne _ _ (by omega)
/-- the pattern is closed -/
theorem c_op_fin (h : c_op t n s m ru fu σ g H G fl0 code p fk ic σc gc Kc Gc l li la) (hw : c_wy (Kc G.length 9) (σc 55 p)) (h7 : 2 * Kc fu 7 + 1 ≤ 2 * H fu 7 + ((ic : Int) - i)) (hpot : pot Kc Gc fu ≤ pot H G fu + 60 * ((ic : Int) - i)) : c_ok2 t n s m ru fu i σ g H G fl0 code ic σc p Kc Gc gc := by
  obtain ⟨o1, o2, ⟨o3, o4, o5, o6, o7, o8⟩, ⟨o9, o10, o11, o12, o13, o14⟩, o15, ⟨o16, o17⟩, ⟨o18, o19⟩, o20, ⟨o21, o22, o23⟩, o24⟩ := h
  refine ⟨o1, o2, ⟨fun q q0 q1 => ?_, fun q q2 y1 y2 y3 => o17 q q2 (by omega) y2 y3⟩, by rw [← o8]; exact o21, o22, o23, o14, h7, hpot⟩
  by_cases hz : q = p
  · subst hz
    refine ⟨⟨o9, ⟨?_, Or.inl o12⟩, o15, ⟨?_, Or.inl o14⟩, ?_⟩, by rw [o10]; omega⟩
    · rw [o10, o11, o12]; rfl
    · rw [o10, o13, o14]; rfl
    · rw [o10]; exact hw
  · have := o17 p q (by omega) (by omega) q1
    rw [o10] at this
    exact ⟨o16 q (by omega) q1, by omega⟩
theorem cK_partSort {Q : Int → e3_H → e3_G → Prop} {k jj : Nat} (h : c_kd σ m H) (hk : k_inv σ m) (hkm : k < m) (hj : (jj : Int) < σ 44 k) (hQ : Q (σ 45 (4 * (k : Int) + jj)) H G) : wK_partSort Q k jj H G := by
  have h5 := hk.2.2.2.2 k hkm
  have hm24 := hk.2.1
  obtain ⟨a1, a2, a3, a4, a5⟩ := h.2 k hkm
  unfold wK_partSort wK_partSort_28
  refine brF (by omega) (cK_partCount h hkm hk.2.1 (brT hj ?_))
  rw [show (k : Int) * 4 = 4 * (k : Int) by omega, e3_w32_id (x := 4 * (k : Int)) (by omega) (by omega), e3_w32_id (x := 4 * (k : Int) + jj) (by omega) (by omega), a4 jj hj]
  exact ⟨by omega, hQ⟩
end COQ
