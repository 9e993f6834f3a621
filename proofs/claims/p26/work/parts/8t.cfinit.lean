def g_fu : e3_G := [(108, 11), (0, 3), (5, 16), (6, 40), (0, 16), (0, 16), (105, 10), (0, 120), (0, 120), (0, 120), (0, 120), (0, 120), (1, 120)]
theorem gz_fu : gz g_fu = 988 := by decide
theorem x_dz5 : ∀ k : Fin 10, e3_dz (wFc.getD 5 []) ((k.val : Nat) : Int) = if k.val < 4 then 0 else -1 := by decide +kernel
theorem x_dz8 : ∀ k : Fin 11, e3_dz (wFc.getD 8 []) ((k.val : Nat) : Int) = if k.val = 2 ∨ k.val = 4 ∨ k.val = 6 ∨ k.val = 8 ∨ k.val = 9 ∨ k.val = 10 then -1 else 0 := by decide +kernel
theorem cE_init {Q : e3_H → e3_G → Prop} {H : e3_H} {G : e3_G} {a : Int} (h0 : 0 ≤ a ∧ a < G.length) (ha : g_at G a (105, 10)) (hQ : ∀ K : e3_H, (∀ b k : Int, b < G.length → b ≠ a → K b k = H b k) → (∀ k : Int, k < 4 → K a k = H a k) → K a 4 = (G.length : Int) → K a 5 = (G.length : Int) + 1 → K a 6 = (G.length : Int) + 2 → K a 7 = (G.length : Int) + 3 → K a 8 = (G.length : Int) + 4 → K a 9 = (G.length : Int) + 5 → Q K (G ++ [(0, 120), (0, 120), (0, 120), (0, 120), (0, 120), (1, 120)])) : wE_init Q a H G := by
  have ob : ∀ E : e3_G, e3_ob (G ++ E) 5 a := fun E => ga_ob (c := 5) (ga_app ha)
  unfold wE_init
  refine ⟨h0.1, ?_⟩
  intro H1 G2 e1 g2
  have l2 : ((G2.length : Nat) : Int) = (G.length : Int) + 1 := by rw [g2, List.length_append]; rfl
  refine ⟨by rw [g2]; exact ob _, ?_⟩
  intro H3 e3 H5 G6 e5 g6
  rw [l2] at e5
  have l6 : ((G6.length : Nat) : Int) = (G.length : Int) + 2 := by rw [g6, List.length_append]; show (((G2.length + 1 : Nat) : Nat) : Int) = _; omega
  refine ⟨by rw [g6, g2, List.append_assoc]; exact ob _, ?_⟩
  intro H7 e7 H9 G10 e9 g10
  rw [l2] at e7
  rw [l6] at e9
  have l10 : ((G10.length : Nat) : Int) = (G.length : Int) + 3 := by rw [g10, List.length_append]; show (((G6.length + 1 : Nat) : Nat) : Int) = _; omega
  refine ⟨by rw [g10, g6, g2, List.append_assoc, List.append_assoc]; exact ob _, ?_⟩
  intro H11 e11 H13 G14 e13 g14
  rw [l6] at e11
  rw [l10] at e13
  have l14 : ((G14.length : Nat) : Int) = (G.length : Int) + 4 := by rw [g14, List.length_append]; show (((G10.length + 1 : Nat) : Nat) : Int) = _; omega
  refine ⟨by rw [g14, g10, g6, g2, List.append_assoc, List.append_assoc, List.append_assoc]; exact ob _, ?_⟩
  intro H15 e15 H17 G18 e17 g18
  rw [l10] at e15
  rw [l14] at e17
  have l18 : ((G18.length : Nat) : Int) = (G.length : Int) + 5 := by rw [g18, List.length_append]; show (((G14.length + 1 : Nat) : Nat) : Int) = _; omega
  refine ⟨by rw [g18, g14, g10, g6, g2, List.append_assoc, List.append_assoc, List.append_assoc, List.append_assoc]; exact ob _, ?_⟩
  intro H19 e19 H21 G22 e21 g22
  rw [l14] at e19
  rw [l18] at e21
  have gF : G22 = G ++ [(0, 120), (0, 120), (0, 120), (0, 120), (0, 120), (1, 120)] := by
    rw [g22, g18, g14, g10, g6, g2]
    simp only [List.append_assoc]
    rfl
  refine ⟨by rw [gF]; exact ob _, ?_⟩
  intro H23 e23
  rw [l18] at e23
  rw [gF]
  refine hQ H23 (fun b k hb hn => ?_) (fun k hk => ?_) ?_ ?_ ?_ ?_ ?_ ?_
  · rw [e23, e21, e19, e17, e15, e13, e11, e9, e7, e5, e3, e1]; simp (disch := omega) only [e3_up_self, e3_up_ne, nw_ne]
  · rw [e23, e21, e19, e17, e15, e13, e11, e9, e7, e5, e3, e1]; simp (disch := omega) only [e3_up_self, e3_up_ne, nw_ne]
  · rw [e23, e21, e19, e17, e15, e13, e11, e9, e7, e5, e3]; simp (disch := omega) only [e3_up_self, e3_up_ne, nw_ne]
  · rw [e23, e21, e19, e17, e15, e13, e11, e9, e7]; simp (disch := omega) only [e3_up_self, e3_up_ne, nw_ne]
  · rw [e23, e21, e19, e17, e15, e13, e11]; simp (disch := omega) only [e3_up_self, e3_up_ne, nw_ne]
  · rw [e23, e21, e19, e17, e15]; simp (disch := omega) only [e3_up_self, e3_up_ne, nw_ne]
  · rw [e23, e21, e19]; simp (disch := omega) only [e3_up_self, e3_up_ne, nw_ne]
  · rw [e23]; simp (disch := omega) only [e3_up_self, e3_up_ne, nw_ne]
def f_m (H : e3_H) (L : Int) : e3_H := e3_nw (e3_up (e3_nw (e3_up (e3_nw (e3_up (e3_nw (e3_up (e3_nw (e3_up (e3_nw (e3_nw H L (e3_dz (wFc.getD 8 []))) (L + 1) (fun _ => 0)) L 2 (L + 1)) (L + 2) (fun _ => -1)) L 4 (L + 2)) (L + 3) (fun _ => -1)) L 6 (L + 3)) (L + 4) (fun _ => 0)) L 8 (L + 4)) (L + 5) (fun _ => 0)) L 9 (L + 5)) (L + 6) (e3_dz (wFc.getD 5 []))
theorem f_m_at (H : e3_H) (L : Int) : (∀ b k : Int, b < L → f_m H L b k = H b k) ∧ f_m H L L 1 = 0 ∧ f_m H L L 2 = L + 1 ∧ f_m H L L 3 = 0 ∧ f_m H L L 4 = L + 2 ∧ f_m H L L 5 = 0 ∧ f_m H L L 6 = L + 3 ∧ f_m H L L 7 = 0 ∧ f_m H L L 8 = L + 4 ∧ f_m H L L 9 = L + 5 := by
  have dz : ∀ k : Nat, k < 11 → e3_dz (wFc.getD 8 []) (k : Int) = if k = 2 ∨ k = 4 ∨ k = 6 ∨ k = 8 ∨ k = 9 ∨ k = 10 then -1 else 0 := fun k hk => x_dz8 ⟨k, hk⟩
  unfold f_m
  refine ⟨fun b k hb => ?_, ?_, ?_, ?_, ?_, ?_, ?_, ?_, ?_, ?_⟩
  · simp (disch := omega) only [e3_up_self, e3_up_ne, nw_ne]
  · simp (disch := omega) only [e3_up_self, e3_up_ne, nw_ne, nw_at]; exact dz 1 (by decide)
  · simp (disch := omega) only [e3_up_self, e3_up_ne, nw_ne, nw_at]
  · simp (disch := omega) only [e3_up_self, e3_up_ne, nw_ne, nw_at]; exact dz 3 (by decide)
  · simp (disch := omega) only [e3_up_self, e3_up_ne, nw_ne, nw_at]
  · simp (disch := omega) only [e3_up_self, e3_up_ne, nw_ne, nw_at]; exact dz 5 (by decide)
  · simp (disch := omega) only [e3_up_self, e3_up_ne, nw_ne, nw_at]
  · simp (disch := omega) only [e3_up_self, e3_up_ne, nw_ne, nw_at]; exact dz 7 (by decide)
  · simp (disch := omega) only [e3_up_self, e3_up_ne, nw_ne, nw_at]
  · simp (disch := omega) only [e3_up_self, e3_up_ne, nw_ne, nw_at]
theorem cF_init {Q : e3_H → e3_G → Prop} {H : e3_H} {G : e3_G} {name : Int} (h139 : 139 ≤ (G.length : Int)) (hQ : ∀ K : e3_H, (∀ b k : Int, b < G.length → K b k = H b k) → (K G.length 0 = name ∧ K G.length 1 = 0 ∧ K G.length 2 = (G.length : Int) + 1 ∧ K G.length 3 = 0 ∧ K G.length 4 = (G.length : Int) + 2 ∧ K G.length 7 = 0 ∧ K G.length 8 = (G.length : Int) + 4 ∧ K G.length 9 = (G.length : Int) + 5) → c_fk G.length K (G ++ g_fu) → Q K (G ++ g_fu)) : wF_init Q G.length name (e3_nw H G.length (e3_dz (wFc.getD 8 []))) (G ++ [(108, 11)]) := by
  have l1 : (((G ++ [(108, 11)]).length : Nat) : Int) = (G.length : Int) + 1 := by rw [List.length_append]; rfl
  have ga : g_at (G ++ [(108, 11)]) (G.length : Int) (108, 11) := ga_new
  have ob : ∀ E : e3_G, e3_ob (G ++ [(108, 11)] ++ E) 8 G.length := fun E => ga_ob (c := 8) (ga_app ga)
  unfold wF_init
  refine ⟨by omega, ?_⟩
  intro H1 G2 e1 g2
  rw [l1] at e1
  have l2 : ((G2.length : Nat) : Int) = (G.length : Int) + 2 := by rw [g2, List.length_append]; show ((((G ++ [(108, 11)]).length + 1 : Nat) : Nat) : Int) = _; omega
  refine ⟨by rw [g2]; exact ob _, ?_⟩
  intro H3 e3 H5 G6 e5 g6
  rw [l1] at e3
  rw [l2] at e5
  have l6 : ((G6.length : Nat) : Int) = (G.length : Int) + 3 := by rw [g6, List.length_append]; show (((G2.length + 1 : Nat) : Nat) : Int) = _; omega
  refine ⟨by rw [g6, g2, List.append_assoc]; exact ob _, ?_⟩
  intro H7 e7 H9 G10 e9 g10
  rw [l2] at e7
  rw [l6] at e9
  have l10 : ((G10.length : Nat) : Int) = (G.length : Int) + 4 := by rw [g10, List.length_append]; show (((G6.length + 1 : Nat) : Nat) : Int) = _; omega
  refine ⟨by rw [g10, g6, g2, List.append_assoc, List.append_assoc]; exact ob _, ?_⟩
  intro H11 e11 H13 G14 e13 g14
  rw [l6] at e11
  rw [l10] at e13
  have l14 : ((G14.length : Nat) : Int) = (G.length : Int) + 5 := by rw [g14, List.length_append]; show (((G10.length + 1 : Nat) : Nat) : Int) = _; omega
  refine ⟨by rw [g14, g10, g6, g2, List.append_assoc, List.append_assoc, List.append_assoc]; exact ob _, ?_⟩
  intro H15 e15 H17 G18 e17 g18
  rw [l10] at e15
  rw [l14] at e17
  have l18 : ((G18.length : Nat) : Int) = (G.length : Int) + 6 := by rw [g18, List.length_append]; show (((G14.length + 1 : Nat) : Nat) : Int) = _; omega
  refine ⟨by rw [g18, g14, g10, g6, g2, List.append_assoc, List.append_assoc, List.append_assoc, List.append_assoc]; exact ob _, ?_⟩
  intro H19 e19 H21 G22 e21 g22
  rw [l14] at e19
  rw [l18] at e21
  have l22 : ((G22.length : Nat) : Int) = (G.length : Int) + 7 := by rw [g22, List.length_append]; show (((G18.length + 1 : Nat) : Nat) : Int) = _; omega
  have g22' : g_at G22 ((G18.length : Nat) : Int) (105, 10) := by rw [g22]; exact ga_new
  have gE : G22 = G ++ [(108, 11), (0, 3), (5, 16), (6, 40), (0, 16), (0, 16), (105, 10)] := by
    rw [g22, g18, g14, g10, g6, g2]
    simp only [List.append_assoc]
    rfl
  refine ⟨by omega, cE_init (by omega) g22' (fun K k1 k2 k4 k5 k6 k7 k8 k9 => ?_)⟩
  have gF : G22 ++ [(0, 120), (0, 120), (0, 120), (0, 120), (0, 120), (1, 120)] = G ++ g_fu := by rw [gE, List.append_assoc]; rfl
  rw [gF]
  have obF : e3_ob (G ++ g_fu) 8 G.length := by
    have := ga_mid (G := G) (E := g_fu) (k := 0) rfl
    rw [show (G.length : Int) + ((0 : Nat) : Int) = G.length by omega] at this
    exact ga_ob (c := 8) this
  refine ⟨obF, ?_⟩
  intro H26 e26
  refine ⟨obF, ?_⟩
  intro H28 e28
  rw [l18] at k1 k2 k4 k5 k6 k7 k8 k9 e26
  rw [l22] at k1 k4 k5 k6 k7 k8 k9
  have low : ∀ b k : Int, b < (G.length : Int) + 6 → b ≠ G.length → H28 b k = H21 b k := fun b k hb hn => by rw [e28, e3_up_ne (ne_1 hn), e26, e3_up_ne (ne_1 hn)]; exact k1 b k (by omega) (by omega)
  have fuk : ∀ k : Int, k ≠ 0 → k ≠ 10 → H28 G.length k = H21 G.length k := fun k h0 h10 => by rw [e28, e3_up_ne (fun z => h0 z.2), e26, e3_up_ne (fun z => h10 z.2)]; exact k1 _ k (by omega) (by omega)
  have hfm : H21 = f_m H G.length := by rw [e21, e19, e17, e15, e13, e11, e9, e7, e5, e3, e1]; rfl
  obtain ⟨m0, m1, m2, m3, m4, m5, m6, m7, m8, m9⟩ := f_m_at H G.length
  rw [hfm] at low fuk
  clear e1 e3 e5 e7 e9 e11 e13 e15 e17 e19 e21 hfm l1 l2 l6 l10 l14 l18 l22 g22 g18 g14 g10 g6 g2 gE gF g22' ga ob
  have tre : ∀ k : Int, H28 ((G.length : Int) + 6) k = K ((G.length : Int) + 6) k := fun k => by rw [e28, e3_up_ne (ne_1 (by omega)), e26, e3_up_ne (ne_1 (by omega))]
  refine hQ H28 (fun b k hb => ?_) ⟨?_, ?_, ?_, ?_, ?_, ?_, ?_, ?_⟩ ⟨⟨?_, ?_, ?_⟩, ⟨?_, ?_⟩, ⟨?_, ?_⟩, ⟨?_, ?_⟩, ⟨?_, ?_⟩, ⟨?_, ?_⟩, ⟨?_, ?_⟩, ⟨?_, ?_⟩⟩
  · rw [low b k (by omega) (by omega)]; exact m0 b k hb
  · rw [e28, e3_up_self]
  · rw [fuk 1 (by decide) (by decide)]; exact m1
  · rw [fuk 2 (by decide) (by decide)]; exact m2
  · rw [fuk 3 (by decide) (by decide)]; exact m3
  · rw [fuk 4 (by decide) (by decide)]; exact m4
  · rw [fuk 7 (by decide) (by decide)]; exact m7
  · rw [fuk 8 (by decide) (by decide)]; exact m8
  · rw [fuk 9 (by decide) (by decide)]; exact m9
  · rw [fuk 5 (by decide) (by decide)]; exact m5
  · rw [fuk 6 (by decide) (by decide)]; exact m6
  · exact ga_mid (G := G) (E := g_fu) (k := 3) rfl
  · rw [e28, e3_up_ne (fun z => by omega), e26, e3_up_self]
  · exact ga_mid (G := G) (E := g_fu) (k := 6) rfl
  · rw [tre, k4]
  · exact ga_mid (G := G) (E := g_fu) (k := 7) rfl
  · rw [tre, k5]; omega
  · exact ga_mid (G := G) (E := g_fu) (k := 8) rfl
  · rw [tre, k6]; omega
  · exact ga_mid (G := G) (E := g_fu) (k := 9) rfl
  · rw [tre, k7]; omega
  · exact ga_mid (G := G) (E := g_fu) (k := 10) rfl
  · rw [tre, k8]; omega
  · exact ga_mid (G := G) (E := g_fu) (k := 11) rfl
  · rw [tre, k9]; omega
  · exact ga_mid (G := G) (E := g_fu) (k := 12) rfl
