/-- a rule's object and its arrays -/
def c_sk (ru : Int) (H : e3_H) (G : e3_G) : Prop := 139 ≤ ru ∧ g_at G ru (109, 19) ∧ (H ru 5 = ru + 1 ∧ g_at G (ru + 1) (1, 8)) ∧ (H ru 8 = ru + 2 ∧ g_at G (ru + 2) (0, 2)) ∧ (H ru 9 = ru + 3 ∧ g_at G (ru + 3) (0, 4)) ∧ (H ru 10 = ru + 4 ∧ g_at G (ru + 4) (0, 4)) ∧ (H ru 16 = ru + 5 ∧ g_at G (ru + 5) (0, 3)) ∧ (H ru 17 = ru + 6 ∧ g_at G (ru + 6) (0, 3))
/-- a rule as it is made -/
def c_r0 (ru num spot : Int) (H : e3_H) : Prop := H ru 0 = num ∧ H ru 1 = spot ∧ H ru 2 = -1 ∧ H ru 3 = 1 ∧ H ru 4 = 0 ∧ H ru 6 = 0 ∧ H ru 7 = 0 ∧ H ru 11 = 0 ∧ H ru 12 = 0 ∧ H ru 15 = 0 ∧ ∀ j k : Int, 1 ≤ j → j ≤ 6 → H (ru + j) k = 0
theorem x_dz9 : ∀ k : Fin 19, e3_dz (wFc.getD 9 []) ((k.val : Nat) : Int) = if k.val = 2 ∨ k.val = 5 ∨ k.val = 8 ∨ k.val = 9 ∨ k.val = 10 ∨ k.val = 16 ∨ k.val = 17 then -1 else 0 := by decide +kernel
def g_ru : e3_G := [(109, 19), (1, 8), (0, 2), (0, 4), (0, 4), (0, 3), (0, 3)]
theorem ga_mid {G E : e3_G} {k : Nat} {e : Nat × Nat} (h : E[k]? = some e) : g_at (G ++ E) ((G.length : Int) + k) e := by
  refine ⟨by omega, ?_⟩
  rw [show ((G.length : Int) + k).toNat = G.length + k by omega, List.getElem?_append_right (by omega), Nat.add_sub_cancel_left]
  exact h
theorem cU_init {Q : e3_H → e3_G → Prop} {H : e3_H} {G : e3_G} {num spot : Int} (h139 : 139 ≤ (G.length : Int)) (hQ : ∀ K, c_sk G.length K (G ++ g_ru) → c_r0 G.length num spot K → (∀ b k : Int, b < G.length → K b k = H b k) → Q K (G ++ g_ru)) : wU_init Q G.length num spot (e3_nw H G.length (e3_dz (wFc.getD 9 []))) (G ++ [(109, 19)]) := by
  have l1 : (((G ++ [(109, 19)]).length : Nat) : Int) = (G.length : Int) + 1 := by rw [List.length_append]; rfl
  have ga : g_at (G ++ [(109, 19)]) (G.length : Int) (109, 19) := ga_new
  have ob : ∀ E : e3_G, e3_ob (G ++ [(109, 19)] ++ E) 9 G.length := fun E => ga_ob (c := 9) (ga_app ga)
  unfold wU_init
  refine ⟨by omega, ga_ob (c := 9) ga, ?_⟩
  intro H1 e1 H3 G4 e3 g4
  rw [l1] at e3
  have l4 : ((G4.length : Nat) : Int) = (G.length : Int) + 2 := by rw [g4, List.length_append]; show ((((G ++ [(109, 19)]).length + 1 : Nat) : Nat) : Int) = _; omega
  refine ⟨by rw [g4]; exact ob _, ?_⟩
  intro H5 e5 H7 G8 e7 g8
  rw [l1] at e5
  rw [l4] at e7
  have l8 : ((G8.length : Nat) : Int) = (G.length : Int) + 3 := by rw [g8, List.length_append]; show (((G4.length + 1 : Nat) : Nat) : Int) = _; omega
  refine ⟨by rw [g8, g4, List.append_assoc]; exact ob _, ?_⟩
  intro H9 e9 H11 G12 e11 g12
  rw [l4] at e9
  rw [l8] at e11
  have l12 : ((G12.length : Nat) : Int) = (G.length : Int) + 4 := by rw [g12, List.length_append]; show (((G8.length + 1 : Nat) : Nat) : Int) = _; omega
  refine ⟨by rw [g12, g8, g4, List.append_assoc, List.append_assoc]; exact ob _, ?_⟩
  intro H13 e13 H15 G16 e15 g16
  rw [l8] at e13
  rw [l12] at e15
  have l16 : ((G16.length : Nat) : Int) = (G.length : Int) + 5 := by rw [g16, List.length_append]; show (((G12.length + 1 : Nat) : Nat) : Int) = _; omega
  refine ⟨by rw [g16, g12, g8, g4, List.append_assoc, List.append_assoc, List.append_assoc]; exact ob _, ?_⟩
  intro H17 e17
  rw [l12] at e17
  refine ⟨by rw [g16, g12, g8, g4, List.append_assoc, List.append_assoc, List.append_assoc]; exact ob _, ?_⟩
  intro H19 e19 H21 G22 e21 g22
  rw [l16] at e21
  have l22 : ((G22.length : Nat) : Int) = (G.length : Int) + 6 := by rw [g22, List.length_append]; show (((G16.length + 1 : Nat) : Nat) : Int) = _; omega
  refine ⟨by rw [g22, g16, g12, g8, g4, List.append_assoc, List.append_assoc, List.append_assoc, List.append_assoc]; exact ob _, ?_⟩
  intro H23 e23 H25 G26 e25 g26
  rw [l16] at e23
  rw [l22] at e25
  have gF : G26 = G ++ g_ru := by
    rw [g26, g22, g16, g12, g8, g4]
    simp only [List.append_assoc]
    rfl
  have obF : e3_ob G26 9 G.length := by rw [g26, g22, g16, g12, g8, g4, List.append_assoc, List.append_assoc, List.append_assoc, List.append_assoc, List.append_assoc]; exact ob _
  refine ⟨obF, ?_⟩
  intro H27 e27
  rw [l22] at e27
  refine ⟨obF, ?_⟩
  intro H29 e29
  refine ⟨obF, ?_⟩
  intro H31 e31
  rw [gF]
  have dz : ∀ k : Nat, k < 19 → e3_dz (wFc.getD 9 []) (k : Int) = if k = 2 ∨ k = 5 ∨ k = 8 ∨ k = 9 ∨ k = 10 ∨ k = 16 ∨ k = 17 then -1 else 0 := fun k hk => x_dz9 ⟨k, hk⟩
  have d2 : e3_dz (wFc.getD 9 []) 2 = -1 := dz 2 (by omega)
  have d4 : e3_dz (wFc.getD 9 []) 4 = 0 := dz 4 (by omega)
  have d6 : e3_dz (wFc.getD 9 []) 6 = 0 := dz 6 (by omega)
  have d7 : e3_dz (wFc.getD 9 []) 7 = 0 := dz 7 (by omega)
  have d12 : e3_dz (wFc.getD 9 []) 12 = 0 := dz 12 (by omega)
  have d15 : e3_dz (wFc.getD 9 []) 15 = 0 := dz 15 (by omega)
  refine hQ H31 ⟨by omega, ?_, ⟨?_, ?_⟩, ⟨?_, ?_⟩, ⟨?_, ?_⟩, ⟨?_, ?_⟩, ⟨?_, ?_⟩, ⟨?_, ?_⟩⟩ ⟨?_, ?_, ?_, ?_, ?_, ?_, ?_, ?_, ?_, ?_, fun j k j1 j6 => ?_⟩ (fun b k hb => ?_)
  · have := ga_mid (G := G) (E := g_ru) (k := 0) rfl; rw [show (G.length : Int) + ((0 : Nat) : Int) = G.length by omega] at this; exact this
  · rw [e31, e29, e27, e25, e23, e21, e19, e17, e15, e13, e11, e9, e7, e5]; simp (disch := omega) only [e3_up_self, e3_up_ne, nw_ne]
  · exact ga_mid (G := G) (E := g_ru) (k := 1) rfl
  · rw [e31, e29, e27, e25, e23, e21, e19, e17, e15, e13, e11, e9]; simp (disch := omega) only [e3_up_self, e3_up_ne, nw_ne]
  · exact ga_mid (G := G) (E := g_ru) (k := 2) rfl
  · rw [e31, e29, e27, e25, e23, e21, e19, e17, e15, e13]; simp (disch := omega) only [e3_up_self, e3_up_ne, nw_ne]
  · exact ga_mid (G := G) (E := g_ru) (k := 3) rfl
  · rw [e31, e29, e27, e25, e23, e21, e19, e17]; simp (disch := omega) only [e3_up_self, e3_up_ne, nw_ne]
  · exact ga_mid (G := G) (E := g_ru) (k := 4) rfl
  · rw [e31, e29, e27, e25, e23]; simp (disch := omega) only [e3_up_self, e3_up_ne, nw_ne]
  · exact ga_mid (G := G) (E := g_ru) (k := 5) rfl
  · rw [e31, e29, e27]; simp (disch := omega) only [e3_up_self, e3_up_ne, nw_ne]
  · exact ga_mid (G := G) (E := g_ru) (k := 6) rfl
  · rw [e31, e29]; simp (disch := omega) only [e3_up_self, e3_up_ne, nw_ne]
  · rw [e31]; simp (disch := omega) only [e3_up_self, e3_up_ne, nw_ne]
  · rw [e31, e29, e27, e25, e23, e21, e19, e17, e15, e13, e11, e9, e7, e5, e3, e1]; simp (disch := omega) only [e3_up_self, e3_up_ne, nw_ne, nw_at]; exact d2
  · rw [e31, e29, e27, e25, e23, e21, e19, e17, e15, e13, e11, e9, e7, e5, e3, e1]; simp (disch := omega) only [e3_up_self, e3_up_ne, nw_ne, nw_at]
  · rw [e31, e29, e27, e25, e23, e21, e19, e17, e15, e13, e11, e9, e7, e5, e3, e1]; simp (disch := omega) only [e3_up_self, e3_up_ne, nw_ne, nw_at]; exact d4
  · rw [e31, e29, e27, e25, e23, e21, e19, e17, e15, e13, e11, e9, e7, e5, e3, e1]; simp (disch := omega) only [e3_up_self, e3_up_ne, nw_ne, nw_at]; exact d6
  · rw [e31, e29, e27, e25, e23, e21, e19, e17, e15, e13, e11, e9, e7, e5, e3, e1]; simp (disch := omega) only [e3_up_self, e3_up_ne, nw_ne, nw_at]; exact d7
  · rw [e31, e29, e27, e25, e23, e21, e19]; simp (disch := omega) only [e3_up_self, e3_up_ne, nw_ne, nw_at]
  · rw [e31, e29, e27, e25, e23, e21, e19, e17, e15, e13, e11, e9, e7, e5, e3, e1]; simp (disch := omega) only [e3_up_self, e3_up_ne, nw_ne, nw_at]; exact d12
  · rw [e31, e29, e27, e25, e23, e21, e19, e17, e15, e13, e11, e9, e7, e5, e3, e1]; simp (disch := omega) only [e3_up_self, e3_up_ne, nw_ne, nw_at]; exact d15
  · have hj : j = 1 ∨ j = 2 ∨ j = 3 ∨ j = 4 ∨ j = 5 ∨ j = 6 := by omega
    rw [e31, e29, e27, e25, e23, e21, e19, e17, e15, e13, e11, e9, e7, e5, e3, e1]
    rcases hj with hj | hj | hj | hj | hj | hj <;> (subst hj; simp (disch := omega) only [e3_up_self, e3_up_ne, nw_ne, nw_at])
  · rw [e31, e29, e27, e25, e23, e21, e19, e17, e15, e13, e11, e9, e7, e5, e3, e1]
    simp (disch := omega) only [e3_up_self, e3_up_ne, nw_ne, nw_at]
