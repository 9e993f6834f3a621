abbrev sy_can : MethodName := ⟨"java/lang/StringLatin1", "canEncode", "(I)Z"⟩
abbrev sy_chr : MethodName := ⟨"java/lang/StringLatin1", "indexOfChar", "([BIII)I"⟩
abbrev sy_ixL : MethodName := ⟨"java/lang/StringLatin1", "indexOf", "([BIII)I"⟩
abbrev sy_cod : MethodName := ⟨"java/lang/String", "coder", "()B"⟩
abbrev sy_len : MethodName := ⟨"java/lang/String", "length", "()I"⟩
abbrev sy_lat : MethodName := ⟨"java/lang/String", "isLatin1", "()Z"⟩
abbrev sy_ix2 : MethodName := ⟨"java/lang/String", "indexOf", "(II)I"⟩
abbrev sy_ix1 : MethodName := ⟨"java/lang/String", "indexOf", "(I)I"⟩
/-- the words that these methods need -/
def sx_ws : List Cond := [
  .code sy_can prog_21_method_4_code 1 (some .boolean), .initialized "java/lang/StringLatin1", .methodLink "java/lang/StringLatin1" 88 sy_can, .static sy_can,
  .code sy_chr prog_21_method_23_code 6 (some .int), .methodLink "java/lang/StringLatin1" 95 sy_chr, .static sy_chr,
  .methodLink "java/lang/StringLatin1" 92 Lib.Math.max.name, .static Lib.Math.max.name, .initialized "java/lang/Math", .code Lib.Math.max.name Lib.Math.max.code 2 (some .int),
  .methodLink "java/lang/StringLatin1" 38 Lib.Math.min.name, .static Lib.Math.min.name, .code Lib.Math.min.name Lib.Math.min.code 2 (some .int),
  .code sy_ixL prog_21_method_22_code 4 (some .int), .methodLink "java/lang/String" 637 sy_ixL, .static sy_ixL,
  .fieldLink "java/lang/String" 38 "java/lang/String" "COMPACT_STRINGS" "Z", .fieldLink "java/lang/String" 15 "java/lang/String" "coder" "B", .fieldLink "java/lang/String" 9 "java/lang/String" "value" "[B",
  .initialized "java/lang/String",
  .code sy_cod prog_20_method_152_code 1 (some .byte), .methodLink "java/lang/String" 335 sy_cod, .instanceMethod sy_cod, .selects "java/lang/String" sy_cod sy_cod,
  .code sy_len prog_20_method_54_code 1 (some .int), .methodLink "java/lang/String" 505 sy_len, .instanceMethod sy_len, .selects "java/lang/String" sy_len sy_len,
  .code sy_lat prog_20_method_154_code 1 (some .boolean), .methodLink "java/lang/String" 492 sy_lat, .instanceMethod sy_lat, .selects "java/lang/String" sy_lat sy_lat,
  .code sy_ix2 prog_20_method_80_code 3 (some .int), .methodLink "java/lang/String" 633 sy_ix2, .instanceMethod sy_ix2, .selects "java/lang/String" sy_ix2 sy_ix2,
  .code sy_ix1 prog_20_method_79_code 2 (some .int), .methodLink "LetterPost$Tokens" 67 sy_ix1, .instanceMethod sy_ix1, .selects "java/lang/String" sy_ix1 sy_ix1]
section SY
variable {l : Launch} {Ts : List Cond} {N a b : Nat}
theorem sx_can (x : Int32) : sx_M l Ts N a b sy_can prog_21_method_4_code 1 .boolean 0 0 [.int x] (if x < 0 ∨ (255 : Int32) < x then 0 else 1) := by
  refine sx_met (by decide) (Nat.le_of_ble_eq_true rfl) (by split <;> rfl) ?_
  intro p e s m args below meth c ls Q hx hb hml hown hts hP hl hret
  have hl : lv_has ls 1 [(0, .int x)] := hl
  have d16 : decode prog_21_method_4_code 16 = .ok (.ireturn, 1) := by decide +kernel
  have no : (x < 0 ∨ (255 : Int32) < x) → W p l e (sx_Rm 0 0) s m args below meth c s.heap [] 0 0 Q (F0 m 15 ls []) := fun h => by
    refine lv_iconst (v := 0) hx hb (show decode prog_21_method_4_code 15 = .ok (.iconst 0, 1) by decide +kernel) (by decide) ?_
    have := hret 16 ls d16
    rw [if_pos h] at this
    exact this
  refine lv_iload_n hx hb (show decode prog_21_method_4_code 0 = .ok (.iload_n 0, 1) by decide +kernel) rfl (lv_at hl 0 rfl) ?_
  refine lv_if_lt (tgt := 15) hx hb (show decode prog_21_method_4_code 1 = .ok (.ifCond .lt 14, 3) by decide +kernel) (by decide) (fun c1 => no (Or.inl c1)) (fun c1 => ?_)
  refine lv_iload_n hx hb (show decode prog_21_method_4_code 4 = .ok (.iload_n 0, 1) by decide +kernel) rfl (lv_at hl 0 rfl) ?_
  refine lv_sipush (v := 255) hx hb (show decode prog_21_method_4_code 5 = .ok (.sipush 255, 3) by decide +kernel) (by decide) ?_
  refine lv_icmp_gt (tgt := 15) hx hb (show decode prog_21_method_4_code 8 = .ok (.if_icmp .gt 7, 3) by decide +kernel) (by decide) (fun c2 => no (Or.inr c2)) (fun c2 => ?_)
  refine lv_iconst (v := 1) hx hb (show decode prog_21_method_4_code 11 = .ok (.iconst 1, 1) by decide +kernel) (by decide) ?_
  refine lv_goto (tgt := 16) hx hb (show decode prog_21_method_4_code 12 = .ok (.goto 4, 3) by decide +kernel) (by decide) ?_
  have := hret 16 ls d16
  rw [if_neg (fun h => h.elim c1 c2)] at this
  exact this
theorem sx_i1 : ∀ i : Fin 17, (Int32.ofNat i.val < 17) ∧ am_iin (Int32.ofNat i.val) 17 = true ∧ (Int32.ofNat i.val).toNatClampNeg = i.val ∧ Int32.ofNat i.val + Int32.ofInt 1 = Int32.ofNat (i.val + 1) := by decide +kernel
theorem sx_chr (x : Int32) : sx_M l Ts N a b sy_chr prog_21_method_23_code 6 .int 0 0 [.ref b, .int x, .int 0, .int 17] (sx_ix x.toInt8.toInt32) := by
  refine sx_met (by decide) (Nat.le_of_ble_eq_true rfl) rfl ?_
  intro p e s m args below meth c ls Q hx hb hml hown hts hP hl hret
  have hl : lv_has ls 6 [(0, .ref b), (1, .int x), (2, .int 0), (3, .int 17)] := hl
  refine lv_iload_n hx hb (show decode prog_21_method_23_code 0 = .ok (.iload_n 1, 1) by decide +kernel) rfl (lv_at hl 1 rfl) ?_
  refine lv_i2b hx hb (show decode prog_21_method_23_code 1 = .ok (.i2b, 1) by decide +kernel) rfl ?_
  generalize x.toInt8.toInt32 = z at hret ⊢
  refine lv_istore (lv' := [(4, .int z), (0, .ref b), (1, .int x), (2, .int 0), (3, .int 17)]) hx hb (show decode prog_21_method_23_code 2 = .ok (.istore 4, 2) by decide +kernel) hl (by decide) rfl (fun ls hl => ?_)
  refine lv_iload_n hx hb (show decode prog_21_method_23_code 4 = .ok (.iload_n 2, 1) by decide +kernel) rfl (lv_at hl 3 rfl) ?_
  refine lv_istore (lv' := [(5, .int 0), (4, .int z), (0, .ref b), (1, .int x), (2, .int 0), (3, .int 17)]) hx hb (show decode prog_21_method_23_code 5 = .ok (.istore 5, 2) by decide +kernel) hl (by decide) rfl (fun ls hl => ?_)
  have d24 : decode prog_21_method_23_code 24 = .ok (.ireturn, 1) := by decide +kernel
  have d32 : decode prog_21_method_23_code 32 = .ok (.ireturn, 1) := by decide +kernel
  have hT : va_T .byte b 17 (fun j => .int (am_ixl.getD j 0)) (fun q => N ≤ q) s s.heap := (hP.1.1 0 (by decide)).2.2.2
  have loop : ∀ (k i : Nat) (ls : Array Slot), i + k = 17 → (∀ j : Nat, j < i → am_ixl.getD j 0 ≠ z) → lv_has ls 6 [(5, .int (Int32.ofNat i)), (4, .int z), (0, .ref b), (1, .int x), (2, .int 0), (3, .int 17)] → W p l e (sx_Rm 0 0) s m args below meth c s.heap [] 0 0 Q (F0 m 7 ls []) := by
    intro k
    induction k with
    | zero =>
      intro i ls hi hj hl
      have e : i = 17 := by omega
      subst e
      refine lv_iload hx hb (show decode prog_21_method_23_code 7 = .ok (.iload 5, 2) by decide +kernel) (lv_at hl 0 rfl) ?_
      refine lv_iload_n hx hb (show decode prog_21_method_23_code 9 = .ok (.iload_n 3, 1) by decide +kernel) rfl (lv_at hl 5 rfl) ?_
      refine lv_icmp_ge (tgt := 31) hx hb (show decode prog_21_method_23_code 10 = .ok (.if_icmp .ge 21, 3) by decide +kernel) (by decide) (fun _ => ?_) (fun c1 => absurd (by decide) c1)
      refine lv_iconst (v := -1) hx hb (show decode prog_21_method_23_code 31 = .ok (.iconst (-1), 1) by decide +kernel) (by decide) ?_
      have := hret 32 ls d32
      rw [sx_all hj] at this
      exact this
    | succ k ih =>
      intro i ls hi hj hl
      obtain ⟨f1, f2, f3, f4⟩ := sx_i1 ⟨i, by omega⟩
      simp only at f1 f2 f3 f4
      refine lv_iload hx hb (show decode prog_21_method_23_code 7 = .ok (.iload 5, 2) by decide +kernel) (lv_at hl 0 rfl) ?_
      refine lv_iload_n hx hb (show decode prog_21_method_23_code 9 = .ok (.iload_n 3, 1) by decide +kernel) rfl (lv_at hl 5 rfl) ?_
      refine lv_icmp_ge (tgt := 31) hx hb (show decode prog_21_method_23_code 10 = .ok (.if_icmp .ge 21, 3) by decide +kernel) (by decide) (fun c1 => absurd f1 (Int32.not_lt.mpr c1)) (fun _ => ?_)
      refine lv_aload_n hx hb (show decode prog_21_method_23_code 13 = .ok (.aload_n 0, 1) by decide +kernel) rfl (lv_at hl 2 rfl) ?_
      refine lv_iload hx hb (show decode prog_21_method_23_code 14 = .ok (.iload 5, 2) by decide +kernel) (lv_at hl 0 rfl) ?_
      refine va_tb (v := .int (am_ixl.getD i 0)) hx hb hT va_S.rf (am_iin_ok f2) (by rw [f3]) (show decode prog_21_method_23_code 16 = .ok (.baload, 1) by decide +kernel) ?_
      refine lv_iload hx hb (show decode prog_21_method_23_code 17 = .ok (.iload 4, 2) by decide +kernel) (lv_at hl 1 rfl) ?_
      refine lv_icmp_ne (tgt := 25) hx hb (show decode prog_21_method_23_code 19 = .ok (.if_icmp .ne 6, 3) by decide +kernel) (by decide) (fun c2 => ?_) (fun c2 => ?_)
      · refine lv_iinc (v := Int32.ofNat (i + 1)) (lv' := [(5, .int (Int32.ofNat (i + 1))), (4, .int z), (0, .ref b), (1, .int x), (2, .int 0), (3, .int 17)]) hx hb (show decode prog_21_method_23_code 25 = .ok (.iinc 5 1, 3) by decide +kernel) hl (k := 0) rfl f4 (by decide) rfl (fun ls hl => ?_)
        refine lv_goto (tgt := 7) hx hb (show decode prog_21_method_23_code 28 = .ok (.goto (-21), 3) by decide +kernel) (by decide) ?_
        refine ih (i + 1) ls (by omega) (fun j hj2 => ?_) hl
        by_cases z2 : j = i
        · subst z2; exact c2
        · exact hj j (by omega)
      · refine lv_iload hx hb (show decode prog_21_method_23_code 22 = .ok (.iload 5, 2) by decide +kernel) (lv_at hl 0 rfl) ?_
        have c3 : am_ixl.getD i 0 = z := c2
        have := hret 24 ls d24
        rw [sx_some (by omega) hj c3] at this
        exact this
  exact loop 17 0 ls (by decide) (fun j hj => absurd hj (Nat.not_lt_zero _)) hl
theorem sx_ixL (hgd : am_gd Ts) (hin : ∀ w ∈ sx_ws, w ∈ Ts) (x : Int32) : sx_M l Ts N a b sy_ixL prog_21_method_22_code 4 .int 1 40 [.ref b, .int x, .int 0, .int 17] (sx_ix x) := by
  refine sx_met (by decide) (Nat.le_of_ble_eq_true rfl) rfl ?_
  intro p e s m args below meth c ls Q hx hb hml hown hts hP hl hret
  have hl : lv_has ls 4 [(0, .ref b), (1, .int x), (2, .int 0), (3, .int 17)] := hl
  have hT : va_T .byte b 17 (fun j => .int (am_ixl.getD j 0)) (fun q => N ≤ q) s s.heap := (hP.1.1 0 (by decide)).2.2.2
  have W0 : ∀ (k : Nat) (w : Cond), sx_ws[k]? = some w → w ∈ Ts := fun k w h => hin w (List.mem_of_getElem? h)
  refine lv_iload_n hx hb (show decode prog_21_method_22_code 0 = .ok (.iload_n 1, 1) by decide +kernel) rfl (lv_at hl 1 rfl) ?_
  refine sx_callS (as := [.int x]) (rest := []) (k := 1) hx hb hml hown hts hgd (sx_can x) (W0 0 _ rfl) (W0 1 _ rfl) (W0 2 _ rfl) (W0 3 _ rfl) ⟨by decide, by decide, by decide +kernel⟩ ⟨Nat.le_of_ble_eq_true rfl, Nat.le_of_ble_eq_true rfl⟩ hP va_S.rf rfl hl.1 rfl (Nat.le_of_ble_eq_true rfl) (show decode prog_21_method_22_code 1 = .ok (.invokestatic 88, 3) by decide +kernel) ⟨Nat.le_refl _, Nat.le_refl _⟩ ?_
  by_cases hcc : x < 0 ∨ (255 : Int32) < x
  · rw [if_pos hcc]
    refine lv_if_ne (tgt := 9) hx hb (show decode prog_21_method_22_code 4 = .ok (.ifCond .ne 5, 3) by decide +kernel) (by decide) (fun c1 => absurd rfl c1) (fun _ => ?_)
    refine lv_iconst (v := -1) hx hb (show decode prog_21_method_22_code 7 = .ok (.iconst (-1), 1) by decide +kernel) (by decide) ?_
    have := hret 8 ls (by decide +kernel)
    rw [sx_out hcc] at this
    exact this
  · rw [if_neg hcc]
    refine lv_if_ne (tgt := 9) hx hb (show decode prog_21_method_22_code 4 = .ok (.ifCond .ne 5, 3) by decide +kernel) (by decide) (fun _ => ?_) (fun c1 => absurd c1 (by decide))
    refine lv_iload_n hx hb (show decode prog_21_method_22_code 9 = .ok (.iload_n 2, 1) by decide +kernel) rfl (lv_at hl 2 rfl) ?_
    refine lv_iconst (v := 0) hx hb (show decode prog_21_method_22_code 10 = .ok (.iconst 0, 1) by decide +kernel) (by decide) ?_
    refine va_mmax hx hb (hml.trans hl.1.symm) hown (hts _ (W0 7 _ rfl)) (hts _ (W0 8 _ rfl)) (hts _ (W0 9 _ rfl)) (hts _ (W0 10 _ rfl)) (Nat.le_of_ble_eq_true rfl) (Nat.le_of_ble_eq_true rfl) (Nat.le_refl _) (Nat.le_refl _) (show decode prog_21_method_22_code 11 = .ok (.invokestatic 92, 3) by decide +kernel) ?_
    rw [show (if (0 : Int32) < 0 then (0 : Int32) else 0) = 0 by decide]
    refine lv_istore_n (lv' := [(2, .int 0), (0, .ref b), (1, .int x), (3, .int 17)]) hx hb (show decode prog_21_method_22_code 14 = .ok (.istore_n 2, 1) by decide +kernel) rfl hl (by decide) rfl (fun ls hl => ?_)
    refine lv_iload_n hx hb (show decode prog_21_method_22_code 15 = .ok (.iload_n 3, 1) by decide +kernel) rfl (lv_at hl 3 rfl) ?_
    refine lv_aload_n hx hb (show decode prog_21_method_22_code 16 = .ok (.aload_n 0, 1) by decide +kernel) rfl (lv_at hl 1 rfl) ?_
    refine va_tlen (v := 17) hx hb hT va_S.rf (by decide) (show decode prog_21_method_22_code 17 = .ok (.arraylength, 1) by decide +kernel) ?_
    refine va_mmin hx hb (hml.trans hl.1.symm) hown (hts _ (W0 11 _ rfl)) (hts _ (W0 12 _ rfl)) (hts _ (W0 9 _ rfl)) (hts _ (W0 13 _ rfl)) (Nat.le_of_ble_eq_true rfl) (Nat.le_of_ble_eq_true rfl) (Nat.le_refl _) (Nat.le_refl _) (show decode prog_21_method_22_code 18 = .ok (.invokestatic 38, 3) by decide +kernel) ?_
    refine lv_topi (fun q eq => ?_)
    have eq2 : q = 17 := by rw [eq]; decide
    subst eq2
    refine lv_istore_n (lv' := [(3, .int 17), (2, .int 0), (0, .ref b), (1, .int x)]) hx hb (show decode prog_21_method_22_code 21 = .ok (.istore_n 3, 1) by decide +kernel) rfl hl (by decide) rfl (fun ls hl => ?_)
    refine lv_iload_n hx hb (show decode prog_21_method_22_code 22 = .ok (.iload_n 2, 1) by decide +kernel) rfl (lv_at hl 1 rfl) ?_
    refine lv_iload_n hx hb (show decode prog_21_method_22_code 23 = .ok (.iload_n 3, 1) by decide +kernel) rfl (lv_at hl 0 rfl) ?_
    refine lv_icmp_lt (tgt := 29) hx hb (show decode prog_21_method_22_code 24 = .ok (.if_icmp .lt 5, 3) by decide +kernel) (by decide) (fun _ => ?_) (fun c1 => absurd (by decide) c1)
    refine lv_aload_n hx hb (show decode prog_21_method_22_code 29 = .ok (.aload_n 0, 1) by decide +kernel) rfl (lv_at hl 2 rfl) ?_
    refine lv_iload_n hx hb (show decode prog_21_method_22_code 30 = .ok (.iload_n 1, 1) by decide +kernel) rfl (lv_at hl 3 rfl) ?_
    refine lv_iload_n hx hb (show decode prog_21_method_22_code 31 = .ok (.iload_n 2, 1) by decide +kernel) rfl (lv_at hl 1 rfl) ?_
    refine lv_iload_n hx hb (show decode prog_21_method_22_code 32 = .ok (.iload_n 3, 1) by decide +kernel) rfl (lv_at hl 0 rfl) ?_
    refine sx_callS (as := [.ref b, .int x, .int 0, .int 17]) (rest := []) (k := 4) hx hb hml hown hts hgd (sx_chr x) (W0 4 _ rfl) (W0 1 _ rfl) (W0 5 _ rfl) (W0 6 _ rfl) ⟨by decide, by decide, by decide +kernel⟩ ⟨Nat.le_of_ble_eq_true rfl, Nat.le_of_ble_eq_true rfl⟩ hP va_S.rf rfl hl.1 rfl (Nat.le_of_ble_eq_true rfl) (show decode prog_21_method_22_code 33 = .ok (.invokestatic 95, 3) by decide +kernel) ⟨Nat.le_refl _, Nat.le_refl _⟩ ?_
    have := hret 36 ls (by decide +kernel)
    rw [← sx_by2 (fun h => hcc (Or.inl h)) (fun h => hcc (Or.inr h))] at this
    exact this
end SY
