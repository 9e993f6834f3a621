theorem am_hp_ok {p : Program} {l : Launch} {e : Env} {R : Room} {s : State} {m : MethodId} {args : Array Value} {below : List Frame} {meth : Method} {c : Code} {H : Heap} {locs : List Loc} {cells slots : Nat} {Q : State → Prop} {T : am_T} {Ts : List Cond} {D : va_G} {dT : Nat → ClassId} {g : Nat → Nat} {N mm : Nat} {ro h h2 : List am_E} {M : am_M} {pc : Nat} {ls : Array Slot} {st st2 : List Value} {i : Instr} {len : Nat}
    (Cx : am_C p s m args meth c T Ts D dT g N ro mm M) (hW : am_W T D dT g N ro.length h H) (hS : va_S (fun q => N ≤ q) s.heap H locs) (hE : s.heap.size + cells = H.size) (hR : cells + h2.length ≤ R.cells + h.length ∧ slots + am_sl h2 ≤ R.slots + am_sl h) (hd : decode M.2.1 pc = .ok (i, len)) (hl : am_ln i = 0 ∨ am_ln i = len) (hh : am_hp T ro mm i st h = some (st2, h2))
    (K : ∀ (H2 : Heap) (locs2 : List Loc) (cells2 slots2 : Nat), am_W T D dT g N ro.length h2 H2 → va_S (fun q => N ≤ q) s.heap H2 locs2 → s.heap.size + cells2 = H2.size → slots2 + am_sl h = slots + am_sl h2 → W p l e R s m args below meth c H2 locs2 cells2 slots2 Q (F0 m (pc + am_ln i) ls (st2.map (am_v g)))) : W p l e R s m args below meth c H locs cells slots Q (F0 m pc ls (st.map (am_v g))) := by
  unfold am_hp at hh
  split at hh
  · exact am_h_gf Cx hW hS hE (am_le (n := 3) hl rfl (by decide) hd) hh K
  · exact am_h_pf Cx hW hS hE (am_le (n := 3) hl rfl (by decide) hd) hh K
  · exact am_h_ial Cx hW hS hE (am_le (n := 1) hl rfl (by decide) hd) hh K
  · exact am_h_lal Cx hW hS hE (am_le (n := 1) hl rfl (by decide) hd) hh K
  · exact am_h_bal Cx hW hS hE (am_le (n := 1) hl rfl (by decide) hd) hh K
  · exact am_h_aal Cx hW hS hE (am_le (n := 1) hl rfl (by decide) hd) hh K
  · exact am_h_ias Cx hW hS hE (am_le (n := 1) hl rfl (by decide) hd) hh K
  · exact am_h_las Cx hW hS hE (am_le (n := 1) hl rfl (by decide) hd) hh K
  · exact am_h_bas Cx hW hS hE (am_le (n := 1) hl rfl (by decide) hd) hh K
  · exact am_h_aas Cx hW hS hE (am_le (n := 1) hl rfl (by decide) hd) hh K
  · exact am_h_aln Cx hW hS hE (am_le (n := 1) hl rfl (by decide) hd) hh K
  · exact am_h_new Cx hW hS hE hR (am_le (n := 3) hl rfl (by decide) hd) hh K
  · exact am_h_na Cx hW hS hE hR (am_le (n := 2) hl rfl (by decide) hd) hh K
  · exact am_h_nq Cx hW hS hE hR (am_le (n := 3) hl rfl (by decide) hd) hh K
  · exact am_h_ldc Cx hW hS hE (am_le (n := 2) hl rfl (by decide) hd) hh K
  · exact am_h_ldw Cx hW hS hE (am_le (n := 3) hl rfl (by decide) hd) hh K
  · exact am_h_ldcw Cx hW hS hE (am_le (n := 3) hl rfl (by decide) hd) hh K
  · exact am_h_gs Cx hW hS hE (am_le (n := 3) hl rfl (by decide) hd) hh K
  · cases hh
theorem am_nv_ok {p : Program} {l : Launch} {e : Env} {R : Room} {s : State} {m : MethodId} {args : Array Value} {below : List Frame} {meth : Method} {c : Code} {H : Heap} {locs : List Loc} {cells slots : Nat} {Q : State → Prop} {T : am_T} {Ts Ls : List Cond} {D : va_G} {dT : Nat → ClassId} {g : Nat → Nat} {N mm f w : Nat} {ro h h2 : List am_E} {M : am_M} {pc : Nat} {ls : Array Slot} {lv : List (Nat × Value)} {st st2 : List Value} {i : Instr} {len : Nat} (hMm : am_okM T Ts Ls)
    (Cx : am_C p s m args meth c T Ts D dT g N ro mm M) (hW : am_W T D dT g N ro.length h H) (hS : va_S (fun q => N ≤ q) s.heap H locs) (hE : s.heap.size + cells = H.size) (hlv : lv_has ls M.2.2.1 lv) (hf : f ≤ R.frames) (hw : w ≤ R.locals) (hd : decode M.2.1 pc = .ok (i, len)) (hl : am_ln i = 0 ∨ am_ln i = len) (hh : am_nv T ro f w mm i st h = some (st2, h2))
    (K : ∀ (H2 : Heap) (locs2 : List Loc) (cells2 slots2 : Nat), am_W T D dT g N ro.length h2 H2 → va_S (fun q => N ≤ q) s.heap H2 locs2 → s.heap.size + cells2 = H2.size → slots2 + am_sl h = slots + am_sl h2 → W p l e R s m args below meth c H2 locs2 cells2 slots2 Q (F0 m (pc + 3) ls (st2.map (am_v g)))) : W p l e R s m args below meth c H locs cells slots Q (F0 m pc ls (st.map (am_v g))) := by
  obtain ⟨hx, hb, hml, hown, hts, hnm, hM, hK, hRO, hNs, hG, hok⟩ := Cx
  unfold am_nv at hh
  split at hh
  · rename_i idx
    split at hh
    · rename_i k ci a r hkl
      split at hh
      · rename_i hc
        cases hh
        obtain ⟨q1, q2, q3⟩ := (hMm mm idx k 4 ci M hkl hM).1 rfl
        refine W.objInit hx hb hown (hts _ q1) (hts _ q2) (hts _ q3) rfl (hlv.1.trans hml.symm) rfl (am_le (n := 3) hl rfl (by decide) hd) (Nat.le_trans hc.1 hf) ?_ (K H locs cells slots hW hS hE rfl)
        have h1 := am_ct_map g st2
        have h2 := hc.2
        show 2 * (F0 m pc ls _).monitorRoom + _ + 12 ≤ R.locals
        have h3 : 2 * (F0 m pc ls ((Value.ref a :: st2).map (am_v g))).monitorRoom = 0 := rfl
        omega
      · cases hh
    · cases hh
  · rename_i idx
    split at hh
    · rename_i k ci n dp a sp a0 r hkl
      split at hh
      · rename_i t0 n0 f0 t1 n1 f1 hd0 hd1
        split at hh
        · rename_i hc
          obtain ⟨rfl, rfl, h1, h2, h3, h4, h5, h6, h7⟩ := hc
          cases hh
          obtain ⟨j0, rfl, hi0⟩ := am_dy_ok hd0
          obtain ⟨j, rfl, hi⟩ := am_dy_ok hd1
          obtain ⟨q1, q2, q3, q4⟩ := (hMm mm idx k 5 ci M hkl hM).2.1 rfl
          have hct := am_ct_map g st2
          refine va_copyi hx hb (hml.trans hlv.1.symm) hown (hts _ q1) (hts _ q2) (hts _ q3) (hts _ q4) hK.1 hW.2 (am_D hG h) hS j0 j 0 0 (am_ws_at hi0) (am_ws_at hi) (am_tl_at hok.2.2.2.2.1.1) (am_tl_at hok.2.2.2.2.1.1) rfl h1 h2 h3 h4 h5 (fun _ _ => rfl) (Nat.le_trans h6 hf) (by omega) (am_le (n := 3) hl rfl (by decide) hd) ?_
          intro H1 locs1 hP1 _ hS1
          refine am_wsz fun hub => ?_
          rw [am_up_at] at K
          have e1 : (g (ro.length + j), (Sum.inl (dT 0, n1, .inl (va_cpy f0 f1 sp.toNatClampNeg dp.toNatClampNeg n.toNatClampNeg)) : va_E)) = (g (ro.length + j), am_lo g dT (.inl (0, n1, .inl (va_cpy f0 f1 sp.toNatClampNeg dp.toNatClampNeg n.toNatClampNeg)))) := rfl
          rw [e1, ← am_ws_set] at hP1
          have hz := am_size hG hP1 hNs hS1 hub (by rw [hE, hW.1]; simp)
          exact K H1 locs1 cells slots ⟨hz, hP1⟩ hS1 (by rw [hE, hW.1, hz]; simp) (by rw [am_sl_set hi (by simp [am_sz])])
        · cases hh
      · cases hh
    · cases hh
  · cases hh
theorem am_good {Ts : List Cond} (hgd : am_gd Ts) {w : Cond} (hw : w ∈ Ts) : GoodIn Ts (w :: Ts) := fun v hv => by
  rcases List.mem_cons.mp hv with rfl | h
  · exact ⟨hw, hgd _ hw⟩
  · exact ⟨h, hgd _ h⟩
theorem am_step {T : am_T} {Ts Ls : List Cond} {D : va_G} {dT : Nat → ClassId} {g : Nat → Nat} {N : Nat} {ro : List am_E} {l : Launch} (hI : am_okI T) (hMm : am_okM T Ts Ls) (hgd : am_gd Ts) (hSix : am_Six T Ts Ls D dT g N ro l) {n : Nat} (ih : am_Snd T Ts Ls D dT g N ro l n) : am_Snd T Ts Ls D dT g N ro l (n + 1) := by
  intro f w mm pc lv st h r h2 hgo p e R s m args below meth c H locs cells slots Q ls M Cx hL hW hS hE hlv hf hw hR1 hR2 K
  have Cx0 := Cx
  obtain ⟨hx, hb, hml, hown, hts, hnm, hM, hK, hRO, hNs, hG, hok⟩ := Cx
  rw [am_go_succ] at hgo
  split at hgo
  · rename_i i len M0 hin hM0
    have eM : M0 = M := Option.some.inj (hM0.symm.trans hM)
    subst eM
    obtain ⟨hd, hl⟩ := hI mm pc i len M0 hin hM
    split at hgo
    · rename_i r0 hrt
      cases hgo
      exact K H locs cells slots pc ls st i len hW hS hE rfl hd hl hrt
    · split at hgo
      · rename_i pc2 lv2 st2 hpu
        refine am_pu_ok hx hb hG.2 hd hl hpu hlv (fun ls2 hlv2 => ?_)
        exact ih f w mm pc2 lv2 st2 h r h2 hgo Cx0 hL hW hS hE hlv2 hf hw hR1 hR2 K
      · split at hgo
        · rename_i st2 h3 hhp
          have g1 := am_hp_grow hhp
          have g2 := am_go_grow T ro n _ _ _ _ _ _ _ _ _ hgo
          refine am_hp_ok Cx0 hW hS hE ⟨by have := g2.1; omega, by have := g2.2; omega⟩ hd hl hhp ?_
          intro H4 locs4 cells4 slots4 hW4 hS4 hE4 hsl4
          have hz := hW.1
          have hz4 := hW4.1
          refine ih f w mm _ lv st2 h3 r h2 hgo Cx0 hL hW4 hS4 hE4 hlv hf hw (by omega) (by omega) ?_
          intro H5 locs5 cells5 slots5 pc5 ls5 st5 i5 len5 a1 a2 a3 a4 a5 a6 a7
          exact K H5 locs5 cells5 slots5 pc5 ls5 st5 i5 len5 a1 a2 a3 (by omega) a5 a6 a7
        · split at hgo
          · rename_i st2 h3 hnv
            have g1 := am_nv_grow hnv
            have g2 := am_go_grow T ro n _ _ _ _ _ _ _ _ _ hgo
            refine am_nv_ok hMm Cx0 hW hS hE hlv hf hw hd hl hnv ?_
            intro H4 locs4 cells4 slots4 hW4 hS4 hE4 hsl4
            have hz := hW.1
            have hz4 := hW4.1
            refine ih f w mm _ lv st2 h3 r h2 hgo Cx0 hL hW4 hS4 hE4 hlv hf hw (by omega) (by omega) ?_
            intro H5 locs5 cells5 slots5 pc5 ls5 st5 i5 len5 a1 a2 a3 a4 a5 a6 a7
            exact K H5 locs5 cells5 slots5 pc5 ls5 st5 i5 len5 a1 a2 a3 (by omega) a5 a6 a7
          · split at hgo
            · rename_i k M2 as rest hca
              split at hgo
              · rename_i hfw
                obtain ⟨hf1, hw1, hct⟩ := hfw
                split at hgo
                · rename_i r1 h3 hgo1
                  have g1 := am_go_grow T ro n _ _ _ _ _ _ _ _ _ hgo1
                  have g2 := am_go_grow T ro n _ _ _ _ _ _ _ _ _ hgo
                  have fin : ∀ (t : State) (H1 : Heap) (locs1 : List Loc), t.heap = H1 → am_W T D dT g N ro.length h3 t.heap → va_S (fun q => N ≤ q) s.heap H1 locs1 → W p l e R s m args below meth c H1 locs1 (cells + (h3.length - h.length)) (slots + (am_sl h3 - am_sl h)) Q (F0 m (pc + 3) ls ((r1.map (am_v g)).toList ++ rest.map (am_v g))) := by
                    intro t H1 locs1 ht hW4 hS4
                    rw [ht] at hW4
                    have hz := hW.1
                    have hz4 := hW4.1
                    have e1 : (r1.map (am_v g)).toList ++ rest.map (am_v g) = (r1.toList ++ rest).map (am_v g) := by
                      cases r1 <;> rfl
                    rw [e1]
                    have ga := g1.1
                    have gb := g1.2
                    refine ih f w mm _ lv _ h3 r h2 hgo Cx0 hL hW4 hS4 (by omega) hlv hf hw (by omega) (by omega) ?_
                    intro H5 locs5 cells5 slots5 pc5 ls5 st5 i5 len5 a1 a2 a3 a4 a5 a6 a7
                    exact K H5 locs5 cells5 slots5 pc5 ls5 st5 i5 len5 a1 a2 a3 (by omega) a5 a6 a7
                  have room : (h3.length - h.length) + cells ≤ R.cells ∧ (am_sl h3 - am_sl h) + slots ≤ R.slots := by
                    have := g1.1
                    have := g1.2
                    have := g2.1
                    have := g2.2
                    omega
                  have pre : ∀ U : State, U.heap = H → s.WarmedH U.vm → am_I T Ls D dT g N ro h U := fun U hU hwU => am_moved hW hK hRO hNs hL hS hU hwU
                  unfold am_ca at hca
                  split at hca
                  · rename_i idx
                    split at hca
                    · rename_i k0 ci hml0
                      split at hca
                      · rename_i M3 hM3
                        split at hca
                        · rename_i hc
                          cases hca
                          obtain ⟨b1, b2, b3, b4, b5, b6, b7, b8, b9⟩ := (hMm mm _ k 0 ci M0 hml0 hM).2.2 M2 hM3 (by decide)
                          have hMet := am_met ih hG hok hgo1 hM3 b1 hct
                          refine am_run_k (A := fun q => N ≤ q) (B := fun t => am_W T D dT g N ro.length h3 t.heap) (va_runS (As := (st.take M2.2.2.2.2).reverse.map (am_v g)) (rest := (st.drop M2.2.2.2.2).map (am_v g)) ⟨hx, hb, hml, hown, hts⟩ hMet ⟨callB_of M2.2.2.2.2 hts (am_good hgd b3) rfl rfl rfl (hts _ b4) (hts _ (b5 (by decide))) b2 ⟨by show f - 1 + 1 ≤ R.frames; omega, by show 8 + (M2.2.2.1 + 11) + (w - (19 + M2.2.2.1)) ≤ R.locals; omega⟩, hts _ (b6 rfl)⟩ ⟨am_blind, fun U hU hwU => ⟨rfl, pre U hU hwU⟩⟩ rfl (by simp; omega) hlv.1 ?_ ?_ (am_le (n := 3) hl rfl (by decide) hd) ⟨by omega, by omega⟩) (fun st₀ o t hq => hq) hS (fun q hq => hq) fin
                          · show st.map (am_v g) = _
                            rw [← List.map_reverse, List.reverse_reverse, ← List.map_append, List.take_append_drop]
                          · have := am_ct_map g (st.drop M2.2.2.2.2)
                            have h3' : 2 * (F0 m pc ls (st.map (am_v g))).monitorRoom = 0 := rfl
                            have := hc.2
                            omega
                        · cases hca
                      · cases hca
                    · cases hca
                  · rename_i idx
                    split at hca
                    · rename_i k0 ci hml0
                      split at hca
                      · rename_i M3 hM3
                        split at hca
                        · rename_i b rest0 hdrop
                          split at hca
                          · rename_i cj vs hdy
                            split at hca
                            · rename_i hc
                              obtain ⟨rfl, hlen, hct8⟩ := hc
                              cases hca
                              obtain ⟨b1, b2, b3, b4, b5, b6, b7, b8, b9⟩ := (hMm mm _ k 1 cj M0 hml0 hM).2.2 M2 hM3 (by decide)
                              obtain ⟨c1, c2, TT, NN, c3⟩ := b7 rfl
                              have hMet := am_met ih hG hok hgo1 hM3 b1 hct
                              obtain ⟨j, rfl, hi⟩ := am_dy_ok hdy
                              refine am_run_k (A := fun q => N ≤ q) (B := fun t => am_W T D dT g N ro.length h3 t.heap) (va_runV (C := M2.1.cls) (b := g (ro.length + j)) (As := (st.take M2.2.2.2.2).reverse.map (am_v g)) (rest := rest.map (am_v g)) ⟨hx, hb, hml, hown, hts⟩ hMet ⟨callB_of M2.2.2.2.2 hts (am_good hgd b3) rfl rfl rfl (hts _ b4) (hts _ (b5 (by decide))) b2 ⟨by show f - 1 + 1 ≤ R.frames; omega, by show 8 + (M2.2.2.1 + 11) + (w - (19 + M2.2.2.1)) ≤ R.locals; omega⟩, hts _ c1, hts _ c2⟩ ⟨am_blind, va_recv hK.1 hW.2 c3 (am_ws_at hi), fun U hU hwU => ⟨rfl, pre U hU hwU⟩⟩ rfl (by simp; omega) hlv.1 ?_ ?_ (am_le (n := 3) hl rfl (by decide) hd) ⟨by omega, by omega⟩) (fun st₀ o t hq => hq) hS (fun q hq => hq) fin
                              · show st.map (am_v g) = _
                                rw [← List.map_reverse, List.reverse_reverse]
                                show _ = _ ++ (Value.ref (ro.length + j) :: rest).map (am_v g)
                                rw [← hdrop, ← List.map_append, List.take_append_drop]
                              · have := am_ct_map g rest
                                have h3' : 2 * (F0 m pc ls (st.map (am_v g))).monitorRoom = 0 := rfl
                                omega
                            · cases hca
                          · cases hca
                        · cases hca
                      · cases hca
                    · cases hca
                  · rename_i idx
                    split at hca
                    · rename_i k0 kd ci hml0
                      split at hca
                      · rename_i hkd
                        split at hca
                        · rename_i M3 hM3
                          split at hca
                          · rename_i b rest0 hdrop
                            split at hca
                            · rename_i hc
                              obtain ⟨hlen, hct8⟩ := hc
                              cases hca
                              obtain ⟨b1, b2, b3, b4, b5, b6, b7, b8, b9⟩ := (hMm mm _ k kd ci M0 hml0 hM).2.2 M2 hM3 (by omega)
                              obtain ⟨c1, c2, c3⟩ := b8 hkd
                              have hMet := am_met ih hG hok hgo1 hM3 b1 hct
                              rw [c3] at hMet b3
                              have stk : st.map (am_v g) = ((st.take M2.2.2.2.2).reverse.map (am_v g)).reverse ++ Value.ref (g b) :: rest.map (am_v g) := by
                                rw [← List.map_reverse, List.reverse_reverse]
                                show _ = _ ++ (Value.ref b :: rest).map (am_v g)
                                rw [← hdrop, ← List.map_append, List.take_append_drop]
                              have cat : 2 * (F0 m pc ls (st.map (am_v g))).monitorRoom + ((rest.map (am_v g)).map fun v => v.category).sum ≤ 8 := by
                                have := am_ct_map g rest
                                have h3' : 2 * (F0 m pc ls (st.map (am_v g))).monitorRoom = 0 := rfl
                                omega
                              by_cases hk3 : kd = 3
                              · obtain ⟨host, c4⟩ := b9 hk3
                                exact am_run_k (A := fun q => N ≤ q) (B := fun t => am_W T D dT g N ro.length h3 t.heap) (va_runIN (b := g b) (As := (st.take M2.2.2.2.2).reverse.map (am_v g)) (rest := rest.map (am_v g)) ⟨hx, hb, hml, hown, hts⟩ hMet ⟨va_cnB M2.2.2.2.2 hts (am_good hgd b3) rfl rfl rfl (hL _ _ _ _ c4) (hts _ b4) b2 ⟨by show f - 1 + 1 ≤ R.frames; omega, by show 8 + (M2.2.2.1 + 11) + (w - (19 + M2.2.2.1)) ≤ R.locals; omega⟩, c1, hts _ c2⟩ ⟨am_blind, fun U hU hwU => ⟨rfl, pre U hU hwU⟩⟩ rfl (by simp; omega) hlv.1 stk cat (am_le (n := 3) hl rfl (by decide) hd) ⟨by omega, by omega⟩) (fun st₀ o t hq => hq) hS (fun q hq => hq) fin
                              · exact am_run_k (A := fun q => N ≤ q) (B := fun t => am_W T D dT g N ro.length h3 t.heap) (va_runI (b := g b) (As := (st.take M2.2.2.2.2).reverse.map (am_v g)) (rest := rest.map (am_v g)) ⟨hx, hb, hml, hown, hts⟩ hMet ⟨callB_of M2.2.2.2.2 hts (am_good hgd b3) rfl rfl rfl (hts _ b4) (hts _ (b5 hk3)) b2 ⟨by show f - 1 + 1 ≤ R.frames; omega, by show 8 + (M2.2.2.1 + 11) + (w - (19 + M2.2.2.1)) ≤ R.locals; omega⟩, c1, hts _ c2⟩ ⟨am_blind, fun U hU hwU => ⟨rfl, pre U hU hwU⟩⟩ rfl (by simp; omega) hlv.1 stk cat (am_le (n := 3) hl rfl (by decide) hd) ⟨by omega, by omega⟩) (fun st₀ o t hq => hq) hS (fun q hq => hq) fin
                            · cases hca
                          · cases hca
                        · cases hca
                      · cases hca
                    · cases hca
                  · cases hca
                · cases hgo
              · cases hgo
            · split at hgo
              · rename_i x hsq
                split at hgo
                · rename_i hfw
                  obtain ⟨hf8, hw4, hct8⟩ := hfw
                  unfold am_sq at hsq
                  split at hsq
                  · rename_i idx
                    split at hsq
                    · rename_i k0 ci y hml0 hld
                      cases hsq
                      have hlen : len = 2 := by
                        rcases hl with z | z
                        · cases z
                        · exact z.symm
                      subst hlen
                      have g2 := am_go_grow T ro n _ _ _ _ _ _ _ _ _ hgo
                      refine hSix hml0 hin hld Cx0 hL hS hE hlv (Nat.le_trans hf8 hf) (Nat.le_trans hw4 hw) (by have := g2.1; omega) (by have := g2.2; omega) hct8 (fun locs1 hS1 => ?_)
                      exact ih f w mm _ lv (.int (am_ix y) :: st) h r h2 hgo Cx0 hL hW hS1 hE hlv hf hw hR1 hR2 K
                    · cases hsq
                  · cases hsq
                · cases hgo
              · cases hgo
  · cases hgo
theorem am_sound {T : am_T} {Ts Ls : List Cond} {D : va_G} {dT : Nat → ClassId} {g : Nat → Nat} {N : Nat} {ro : List am_E} {l : Launch} (hI : am_okI T) (hMm : am_okM T Ts Ls) (hgd : am_gd Ts) (hSix : am_Six T Ts Ls D dT g N ro l) : ∀ n, am_Snd T Ts Ls D dT g N ro l n
  | 0 => fun _ _ _ _ _ _ _ _ _ h => by cases h
  | n + 1 => am_step hI hMm hgd hSix (am_sound hI hMm hgd hSix n)
