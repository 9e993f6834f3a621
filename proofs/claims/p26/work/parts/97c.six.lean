def sx_ps : List Nat := [591, 170, 589, 590, 600, 598, 599, 592, 593, 171, 594, 595, 596, 597, 588, 586, 587, 576, 2481, 2482, 169, 585, 582, 583, 584, 581, 578, 579, 580, 575, 572, 573, 574, 571, 568, 569, 570, 567, 564, 565, 566]
theorem sx_hk : ∀ k : Fin 41, (match sx_ws[k.val]? with | some w => am_has lw_tbl (sx_ps.getD k.val 0) w | none => false) = true := by decide +kernel
theorem sx_in : ∀ w ∈ sx_ws, w ∈ tb_Ts := fun w hw => by
  obtain ⟨k, hk, e⟩ := List.getElem_of_mem hw
  have h := sx_hk ⟨k, hk⟩
  simp only at h
  rw [List.getElem?_eq_getElem hk, e] at h
  exact am_has_ok h
def tb_q6 (m : Nat) (q : Instr × Nat) (pc : Nat) : Bool := match q.1 with
  | .ldc idx => (match tb_lk tb_G (tb_c m).1 idx with
    | some (_, 6, _) => Nat.beq m 16 && Nat.beq pc 134
    | _ => true)
  | _ => true
theorem tb_c6 : (tb_is.zipIdx).all (fun q => tb_bl (tb_q6 q.2) q.1) = true := by decide +kernel
theorem tb_h6 : ∀ mm pc idx k ci M, am_ml tbT mm idx = some (k, 6, ci) → am_in tbT mm pc = some (.ldc idx, 2) → am_mt tbT mm = some M → M.1.cls = "LetterPost$Tokens" ∧ decode M.2.1 pc = .ok (.ldc 65, 2) ∧ decode M.2.1 (pc + 2) = .ok (.iload_n 2, 1) ∧ decode M.2.1 (pc + 3) = .ok (.i2c, 1) ∧ decode M.2.1 (pc + 4) = .ok (.invokevirtual 67, 3) := by
  intro mm pc idx k ci M hml hin hM
  have hml : tb_lk tb_G (tb_c mm).1 idx = some (k, 6, ci) := hml
  obtain ⟨l, hl, hi⟩ := tb_lk_ok (show tb_lk tb_is mm pc = some (.ldc idx, 2) from hin)
  have h1 := tb_all (P := fun l m => tb_bl (tb_q6 m) l) (l := tb_is) tb_c6 hl
  have h2 := tb_bl_ok h1 hi
  unfold tb_q6 at h2
  simp only [hml, Bool.and_eq_true] at h2
  have e1 := Nat.eq_of_beq_eq_true h2.1
  have e2 := Nat.eq_of_beq_eq_true h2.2
  subst e1
  subst e2
  have hM : some tbM16 = some M := hM
  cases hM
  exact ⟨rfl, by decide +kernel, by decide +kernel, by decide +kernel, by decide +kernel⟩
