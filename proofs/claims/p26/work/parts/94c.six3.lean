section SZ
variable {l : Launch} {Ts : List Cond} {N a b : Nat}
theorem sx_cod (hin : ∀ w ∈ sx_ws, w ∈ Ts) : sx_M l Ts N a b sy_cod prog_20_method_152_code 1 .byte 0 0 [.ref a] 0 := by
  refine sx_met (by decide) (Nat.le_of_ble_eq_true rfl) (by decide) ?_
  intro p e s m args below meth c ls Q hx hb hml hown hts hP hl hret
  have hl : lv_has ls 1 [(0, .ref a)] := hl
  have W0 : ∀ (k : Nat) (w : Cond), sx_ws[k]? = some w → w ∈ Ts := fun k w h => hin w (List.mem_of_getElem? h)
  refine va_gets hx hb hP.2 va_S.rf hown (hts _ (W0 17 _ rfl)) (fun _ z => z) (show decode prog_20_method_152_code 0 = .ok (.getstatic 38, 3) by decide +kernel) ?_
  refine lv_if_eq (tgt := 13) hx hb (show decode prog_20_method_152_code 3 = .ok (.ifCond .eq 10, 3) by decide +kernel) (by decide) (fun c1 => absurd c1 (by decide)) (fun _ => ?_)
  refine lv_aload_n hx hb (show decode prog_20_method_152_code 6 = .ok (.aload_n 0, 1) by decide +kernel) rfl (lv_at hl 0 rfl) ?_
  refine vk_getf hx hb (hP.1.1 0 (by decide)).2.1 va_S.rf hown (hts _ (W0 18 _ rfl)) (fun _ z => z) (show decode prog_20_method_152_code 7 = .ok (.getfield 15, 3) by decide +kernel) ?_
  refine lv_goto (tgt := 14) hx hb (show decode prog_20_method_152_code 10 = .ok (.goto 4, 3) by decide +kernel) (by decide) ?_
  exact hret 14 ls (by decide +kernel)
theorem sx_lat (hin : ∀ w ∈ sx_ws, w ∈ Ts) : sx_M l Ts N a b sy_lat prog_20_method_154_code 1 .boolean 0 0 [.ref a] 1 := by
  refine sx_met (by decide) (Nat.le_of_ble_eq_true rfl) (by decide) ?_
  intro p e s m args below meth c ls Q hx hb hml hown hts hP hl hret
  have hl : lv_has ls 1 [(0, .ref a)] := hl
  have W0 : ∀ (k : Nat) (w : Cond), sx_ws[k]? = some w → w ∈ Ts := fun k w h => hin w (List.mem_of_getElem? h)
  refine va_gets hx hb hP.2 va_S.rf hown (hts _ (W0 17 _ rfl)) (fun _ z => z) (show decode prog_20_method_154_code 0 = .ok (.getstatic 38, 3) by decide +kernel) ?_
  refine lv_if_eq (tgt := 17) hx hb (show decode prog_20_method_154_code 3 = .ok (.ifCond .eq 14, 3) by decide +kernel) (by decide) (fun c1 => absurd c1 (by decide)) (fun _ => ?_)
  refine lv_aload_n hx hb (show decode prog_20_method_154_code 6 = .ok (.aload_n 0, 1) by decide +kernel) rfl (lv_at hl 0 rfl) ?_
  refine vk_getf hx hb (hP.1.1 0 (by decide)).2.1 va_S.rf hown (hts _ (W0 18 _ rfl)) (fun _ z => z) (show decode prog_20_method_154_code 7 = .ok (.getfield 15, 3) by decide +kernel) ?_
  refine lv_if_ne (tgt := 17) hx hb (show decode prog_20_method_154_code 10 = .ok (.ifCond .ne 7, 3) by decide +kernel) (by decide) (fun c1 => absurd rfl c1) (fun _ => ?_)
  refine lv_iconst (v := 1) hx hb (show decode prog_20_method_154_code 13 = .ok (.iconst 1, 1) by decide +kernel) (by decide) ?_
  refine lv_goto (tgt := 18) hx hb (show decode prog_20_method_154_code 14 = .ok (.goto 4, 3) by decide +kernel) (by decide) ?_
  exact hret 18 ls (by decide +kernel)
theorem sx_len (hgd : am_gd Ts) (hin : ∀ w ∈ sx_ws, w ∈ Ts) : sx_M l Ts N a b sy_len prog_20_method_54_code 1 .int 1 20 [.ref a] 17 := by
  refine sx_met (by decide) (Nat.le_of_ble_eq_true rfl) rfl ?_
  intro p e s m args below meth c ls Q hx hb hml hown hts hP hl hret
  have hl : lv_has ls 1 [(0, .ref a)] := hl
  have W0 : ∀ (k : Nat) (w : Cond), sx_ws[k]? = some w → w ∈ Ts := fun k w h => hin w (List.mem_of_getElem? h)
  have hT : va_T .byte b 17 (fun j => .int (am_ixl.getD j 0)) (fun q => N ≤ q) s s.heap := (hP.1.1 0 (by decide)).2.2.2
  refine lv_aload_n hx hb (show decode prog_20_method_54_code 0 = .ok (.aload_n 0, 1) by decide +kernel) rfl (lv_at hl 0 rfl) ?_
  refine vk_getf hx hb (hP.1.1 0 (by decide)).2.2.1 va_S.rf hown (hts _ (W0 19 _ rfl)) (fun _ z => z) (show decode prog_20_method_54_code 1 = .ok (.getfield 9, 3) by decide +kernel) ?_
  refine va_tlen (v := 17) hx hb hT va_S.rf (by decide) (show decode prog_20_method_54_code 4 = .ok (.arraylength, 1) by decide +kernel) ?_
  refine lv_aload_n hx hb (show decode prog_20_method_54_code 5 = .ok (.aload_n 0, 1) by decide +kernel) rfl (lv_at hl 0 rfl) ?_
  refine sx_callV (as := []) (rest := [.int 17]) (k := 0) hx hb hml hown hts hgd (sx_cod hin) rfl (W0 21 _ rfl) (W0 20 _ rfl) (W0 22 _ rfl) (W0 23 _ rfl) (W0 24 _ rfl) ⟨by decide, by decide, by decide +kernel⟩ ⟨Nat.le_of_ble_eq_true rfl, Nat.le_of_ble_eq_true rfl⟩ hP va_S.rf rfl hl.1 rfl (Nat.le_of_ble_eq_true rfl) (show decode prog_20_method_54_code 6 = .ok (.invokevirtual 335, 3) by decide +kernel) ⟨Nat.le_refl _, Nat.le_refl _⟩ ?_
  refine lv_ishr hx hb (show decode prog_20_method_54_code 9 = .ok (.ishr, 1) by decide +kernel) ?_
  refine lv_topi (fun q eq => ?_)
  have eq2 : q = 17 := by rw [eq]; decide
  subst eq2
  exact hret 10 ls (by decide +kernel)
theorem sx_ix2 (hgd : am_gd Ts) (hin : ∀ w ∈ sx_ws, w ∈ Ts) (x : Int32) : sx_M l Ts N a b sy_ix2 prog_20_method_80_code 3 .int 2 80 [.ref a, .int x, .int 0] (sx_ix x) := by
  refine sx_met (by decide) (Nat.le_of_ble_eq_true rfl) rfl ?_
  intro p e s m args below meth c ls Q hx hb hml hown hts hP hl hret
  have hl : lv_has ls 3 [(0, .ref a), (1, .int x), (2, .int 0)] := hl
  have W0 : ∀ (k : Nat) (w : Cond), sx_ws[k]? = some w → w ∈ Ts := fun k w h => hin w (List.mem_of_getElem? h)
  refine lv_aload_n hx hb (show decode prog_20_method_80_code 0 = .ok (.aload_n 0, 1) by decide +kernel) rfl (lv_at hl 0 rfl) ?_
  refine sx_callV (as := []) (rest := []) (k := 0) hx hb hml hown hts hgd (sx_lat hin) rfl (W0 29 _ rfl) (W0 20 _ rfl) (W0 30 _ rfl) (W0 31 _ rfl) (W0 32 _ rfl) ⟨by decide, by decide, by decide +kernel⟩ ⟨Nat.le_of_ble_eq_true rfl, Nat.le_of_ble_eq_true rfl⟩ hP va_S.rf rfl hl.1 rfl (Nat.le_of_ble_eq_true rfl) (show decode prog_20_method_80_code 1 = .ok (.invokevirtual 492, 3) by decide +kernel) ⟨Nat.le_refl _, Nat.le_refl _⟩ ?_
  refine lv_if_eq (tgt := 23) hx hb (show decode prog_20_method_80_code 4 = .ok (.ifCond .eq 19, 3) by decide +kernel) (by decide) (fun c1 => absurd c1 (by decide)) (fun _ => ?_)
  refine lv_aload_n hx hb (show decode prog_20_method_80_code 7 = .ok (.aload_n 0, 1) by decide +kernel) rfl (lv_at hl 0 rfl) ?_
  refine vk_getf hx hb (hP.1.1 0 (by decide)).2.2.1 va_S.rf hown (hts _ (W0 19 _ rfl)) (fun _ z => z) (show decode prog_20_method_80_code 8 = .ok (.getfield 9, 3) by decide +kernel) ?_
  refine lv_iload_n hx hb (show decode prog_20_method_80_code 11 = .ok (.iload_n 1, 1) by decide +kernel) rfl (lv_at hl 1 rfl) ?_
  refine lv_iload_n hx hb (show decode prog_20_method_80_code 12 = .ok (.iload_n 2, 1) by decide +kernel) rfl (lv_at hl 2 rfl) ?_
  refine lv_aload_n hx hb (show decode prog_20_method_80_code 13 = .ok (.aload_n 0, 1) by decide +kernel) rfl (lv_at hl 0 rfl) ?_
  refine sx_callV (as := []) (rest := [.int 0, .int x, .ref b]) (k := 0) hx hb hml hown hts hgd (sx_len hgd hin) rfl (W0 25 _ rfl) (W0 20 _ rfl) (W0 26 _ rfl) (W0 27 _ rfl) (W0 28 _ rfl) ⟨by decide, by decide, by decide +kernel⟩ ⟨Nat.le_of_ble_eq_true rfl, Nat.le_of_ble_eq_true rfl⟩ hP va_S.rf rfl hl.1 rfl (Nat.le_of_ble_eq_true rfl) (show decode prog_20_method_80_code 14 = .ok (.invokevirtual 505, 3) by decide +kernel) ⟨Nat.le_refl _, Nat.le_refl _⟩ ?_
  refine sx_callS (as := [.ref b, .int x, .int 0, .int 17]) (rest := []) (k := 4) hx hb hml hown hts hgd (sx_ixL hgd hin x) (W0 14 _ rfl) (W0 1 _ rfl) (W0 15 _ rfl) (W0 16 _ rfl) ⟨by decide, by decide, by decide +kernel⟩ ⟨Nat.le_of_ble_eq_true rfl, Nat.le_of_ble_eq_true rfl⟩ hP va_S.rf rfl hl.1 rfl (Nat.le_of_ble_eq_true rfl) (show decode prog_20_method_80_code 17 = .ok (.invokestatic 637, 3) by decide +kernel) ⟨Nat.le_refl _, Nat.le_refl _⟩ ?_
  refine lv_goto (tgt := 36) hx hb (show decode prog_20_method_80_code 20 = .ok (.goto 16, 3) by decide +kernel) (by decide) ?_
  exact hret 36 ls (by decide +kernel)
theorem sx_ix1 (hgd : am_gd Ts) (hin : ∀ w ∈ sx_ws, w ∈ Ts) (x : Int32) : sx_M l Ts N a b sy_ix1 prog_20_method_79_code 2 .int 3 120 [.ref a, .int x] (sx_ix x) := by
  refine sx_met (by decide) (Nat.le_of_ble_eq_true rfl) rfl ?_
  intro p e s m args below meth c ls Q hx hb hml hown hts hP hl hret
  have hl : lv_has ls 2 [(0, .ref a), (1, .int x)] := hl
  have W0 : ∀ (k : Nat) (w : Cond), sx_ws[k]? = some w → w ∈ Ts := fun k w h => hin w (List.mem_of_getElem? h)
  refine lv_aload_n hx hb (show decode prog_20_method_79_code 0 = .ok (.aload_n 0, 1) by decide +kernel) rfl (lv_at hl 0 rfl) ?_
  refine lv_iload_n hx hb (show decode prog_20_method_79_code 1 = .ok (.iload_n 1, 1) by decide +kernel) rfl (lv_at hl 1 rfl) ?_
  refine lv_iconst (v := 0) hx hb (show decode prog_20_method_79_code 2 = .ok (.iconst 0, 1) by decide +kernel) (by decide) ?_
  refine sx_callV (as := [.int x, .int 0]) (rest := []) (k := 2) hx hb hml hown hts hgd (sx_ix2 hgd hin x) rfl (W0 33 _ rfl) (W0 20 _ rfl) (W0 34 _ rfl) (W0 35 _ rfl) (W0 36 _ rfl) ⟨by decide, by decide, by decide +kernel⟩ ⟨Nat.le_of_ble_eq_true rfl, Nat.le_of_ble_eq_true rfl⟩ hP va_S.rf rfl hl.1 rfl (Nat.le_of_ble_eq_true rfl) (show decode prog_20_method_79_code 3 = .ok (.invokevirtual 633, 3) by decide +kernel) ⟨Nat.le_refl _, Nat.le_refl _⟩ ?_
  exact hret 6 ls (by decide +kernel)
/-- the four instructions -/
theorem sx_Six {T : am_T} {Ls : List Cond} {D : va_G} {dT : Nat → ClassId} {g : Nat → Nat} {ro : List am_E} (hgd : am_gd Ts) (hin : ∀ w ∈ sx_ws, w ∈ Ts) (h6 : ∀ mm pc idx k ci M, am_ml T mm idx = some (k, 6, ci) → am_in T mm pc = some (.ldc idx, 2) → am_mt T mm = some M → M.1.cls = "LetterPost$Tokens" ∧ decode M.2.1 pc = .ok (.ldc 65, 2) ∧ decode M.2.1 (pc + 2) = .ok (.iload_n 2, 1) ∧ decode M.2.1 (pc + 3) = .ok (.i2c, 1) ∧ decode M.2.1 (pc + 4) = .ok (.invokevirtual 67, 3)) : am_Six T Ts Ls D dT g N ro l := by
  intro p e R s m args below meth c H locs cells slots Q mm pc idx k ci M ls lv st x hml0 hin0 hld Cx hL hS hE hlv hf hw hc hs hct K
  obtain ⟨hx, hb, hml, hown, hts, hnm, hM, hK, hRO, hNs, hG, hok⟩ := Cx
  obtain ⟨e1, e2, e3, e4, e5⟩ := h6 mm pc idx k ci M hml0 hin0 hM
  obtain ⟨⟨a, b, hR1, hR2⟩, hZ⟩ := hRO.2.2
  rw [e1] at hown
  have W0 : ∀ (k : Nat) (w : Cond), sx_ws[k]? = some w → w ∈ Ts := fun k w h => hin w (List.mem_of_getElem? h)
  have hld2 := am_ld_ok hld hlv
  refine va_ldcS hx hb hown hR1 e2 ?_
  refine lv_iload_n hx hb e3 rfl hld2 ?_
  refine lv_i2c hx hb e4 rfl ?_
  refine sx_callV (N := N) (a := a) (b := b) (as := [.int (x.toUInt32 % 65536).toInt32]) (rest := st.map (am_v g)) (k := 1) hx hb hml hown hts hgd (sx_ix1 hgd hin _) rfl (W0 37 _ rfl) (W0 20 _ rfl) (W0 38 _ rfl) (W0 39 _ rfl) (W0 40 _ rfl) ⟨by decide, by decide, by decide +kernel⟩ ⟨by show 3 + 1 ≤ _; omega, by show 8 + (2 + 11) + 120 ≤ _; omega⟩ ⟨hR2, hZ⟩ hS rfl hlv.1 rfl (by rw [am_ct_map]; exact hct) e5 ⟨hc, hs⟩ ?_
  exact K locs hS
end SZ
