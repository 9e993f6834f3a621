/-- a new cell's address can only be the next one -/
theorem am_fresh {T : am_T} {D : va_G} {dT : Nat → ClassId} {g : Nat → Nat} {N k cells q : Nat} {h : List am_E} {x : va_E} {H1 H0 : Heap} (hG : am_G g N k) (hP1 : va_P D (am_cl T) (am_ws g dT k h ++ [(q, x)]) H1) (hD1 : va_D (fun q => N ≤ q) (am_ws g dT k h ++ [(q, x)])) (hub : H1.size ≤ H0.size + cells) (hex : H0.size + cells = N + h.length + 1) : q = g (k + h.length) := by
  have hlen : (am_ws g dT k h).length = h.length := by unfold am_ws; simp
  have hq : (am_ws g dT k h ++ [(q, x)])[h.length]? = some (q, x) := by
    rw [List.getElem?_append_right (by omega), hlen, Nat.sub_self]
    rfl
  have h1 := (hP1 _ _ hq).lt
  have h2 : N ≤ q := hD1.2 _ _ hq
  simp only at h1
  rw [hG.1]
  rcases Nat.lt_or_ge q (N + h.length) with hlt | hge
  · exfalso
    obtain ⟨cc, hc⟩ : ∃ cc, h[q - N]? = some cc := ⟨h[q - N], List.getElem?_eq_getElem (by omega)⟩
    have h3 : (am_ws g dT k h ++ [(q, x)])[q - N]? = some (g (k + (q - N)), am_lo g dT cc) := by
      rw [List.getElem?_append_left (by omega)]
      exact am_ws_at hc
    have h4 := hD1.1 _ _ _ _ h3 hq (by show g (k + (q - N)) = q; rw [hG.1]; omega)
    omega
  · omega
section AM4
variable {p : Program} {l : Launch} {e : Env} {R : Room} {s : State} {m : MethodId} {args : Array Value} {below : List Frame} {meth : Method} {c : Code} {H : Heap} {locs : List Loc} {cells slots : Nat} {Q : State → Prop}
variable {T : am_T} {Ts : List Cond} {D : va_G} {dT : Nat → ClassId} {g : Nat → Nat} {N mm : Nat} {ro h h2 : List am_E} {M : am_M} {pc : Nat} {ls : Array Slot} {st st2 : List Value}
theorem am_h_new {idx : Nat} (Cx : am_C p s m args meth c T Ts D dT g N ro mm M) (hW : am_W T D dT g N ro.length h H) (hS : va_S (fun q => N ≤ q) s.heap H locs) (hE : s.heap.size + cells = H.size) (hR : cells + h2.length ≤ R.cells + h.length ∧ slots + am_sl h2 ≤ R.slots + am_sl h) (hd : decode M.2.1 pc = .ok (.new idx, 3)) (hh : am_new T ro mm idx st h = some (st2, h2))
    (K : ∀ (H2 : Heap) (locs2 : List Loc) (cells2 slots2 : Nat), am_W T D dT g N ro.length h2 H2 → va_S (fun q => N ≤ q) s.heap H2 locs2 → s.heap.size + cells2 = H2.size → slots2 + am_sl h = slots + am_sl h2 → W p l e R s m args below meth c H2 locs2 cells2 slots2 Q (F0 m (pc + 3) ls (st2.map (am_v g)))) : W p l e R s m args below meth c H locs cells slots Q (F0 m pc ls (st.map (am_v g))) := by
  obtain ⟨hx, hb, hml, hown, hts, hnm, hM, hK, hRO, hNs, hG, hok⟩ := Cx
  unfold am_new at hh
  split at hh
  · rename_i ci t hkl
    split at hh
    · rename_i q hcl
      obtain ⟨C, TT, NN⟩ := q
      cases hh
      obtain ⟨hin, ⟨ty0, hty0, hdf⟩, hlen, hnmf, hinst, hini⟩ := hok.2.1 ci C TT NN hcl
      have hmap : (am_df T ci).map (am_v g) = am_df T ci := by
        apply List.ext_getElem?
        intro j
        rw [List.getElem?_map]
        by_cases hj : j < NN
        · obtain ⟨z, hz, hzz⟩ := (hdf j hj).2
          rw [hz]
          show some (am_v g z) = some z
          rw [hzz]
        · rw [List.getElem?_eq_none (by omega)]
          rfl
      rw [am_sl_push] at hR
      have hR1 : cells + 1 ≤ R.cells := by
        have := hR.1
        simp at this
        omega
      have hR2 : slots + NN ≤ R.slots := by
        have := hR.2
        simp only [am_sz] at this
        omega
      refine va_new hx hb hts hin ty0 hty0 hown (hts _ ((hok.2.2.1 mm idx ci t M hkl hM).1 C TT NN hcl)) (hts _ hinst) (hts _ hini) hK.1 hW.2 (am_D hG h) hS (fun q hq => Nat.le_trans hNs hq) hcl (fun j hj => (hdf j hj).1) hR1 hR2 hd ?_
      intro q H1 hP1 hD1 hS1
      refine am_wsz fun hub => ?_
      have hq := am_fresh hG hP1 hD1 hub (by have := hW.1; omega)
      subst hq
      have e1 : am_ws g dT ro.length h ++ [(g (ro.length + h.length), (Sum.inr (ci, am_df T ci) : va_E))] = am_ws g dT ro.length (h ++ [.inr (ci, am_df T ci)]) := by
        rw [am_ws_push]
        show _ = _ ++ [(g (ro.length + h.length), (Sum.inr (ci, (am_df T ci).map (am_v g)) : va_E))]
        rw [hmap]
      rw [e1] at hP1
      have hz := am_size hG hP1 hNs hS1 hub (by have := hW.1; simp; omega)
      exact K H1 locs (cells + 1) (slots + NN) ⟨hz, hP1⟩ hS1 (by have := hW.1; rw [hz]; simp; omega) (by rw [am_sl_push]; simp only [am_sz]; omega)
    · cases hh
  · cases hh
theorem am_h_na {y : ArrayType} (Cx : am_C p s m args meth c T Ts D dT g N ro mm M) (hW : am_W T D dT g N ro.length h H) (hS : va_S (fun q => N ≤ q) s.heap H locs) (hE : s.heap.size + cells = H.size) (hR : cells + h2.length ≤ R.cells + h.length ∧ slots + am_sl h2 ≤ R.slots + am_sl h) (hd : decode M.2.1 pc = .ok (.newarray y, 2)) (hh : am_na y ro st h = some (st2, h2))
    (K : ∀ (H2 : Heap) (locs2 : List Loc) (cells2 slots2 : Nat), am_W T D dT g N ro.length h2 H2 → va_S (fun q => N ≤ q) s.heap H2 locs2 → s.heap.size + cells2 = H2.size → slots2 + am_sl h = slots + am_sl h2 → W p l e R s m args below meth c H2 locs2 cells2 slots2 Q (F0 m (pc + 2) ls (st2.map (am_v g)))) : W p l e R s m args below meth c H locs cells slots Q (F0 m pc ls (st.map (am_v g))) := by
  obtain ⟨hx, hb, hml, hown, hts, hnm, hM, hK, hRO, hNs, hG, hok⟩ := Cx
  unfold am_na at hh
  split at hh
  · rename_i n r
    split at hh
    · rename_i t ft x hnad
      split at hh
      · rename_i hc
        obtain ⟨hn, hbyt⟩ := hc
        cases hh
        have key : newarray.typeOf y = ft ∧ (am_ty T)[t]? = some ft ∧ Cond.arrayClass ft ∈ Ts ∧ componentBytes ft ≤ 8 ∧ (∀ cA : ClassId, vp_cell cA (n.toNatClampNeg, x) = arrV cA n.toNatClampNeg (fun _ => defaultValue ft)) ∧ am_lx g x = x ∧ ∀ (U : State) (cA : ClassId), va_RA U cA ft ↔ U.vm.findClass ("[" ++ ft.toString) = some cA := by
          obtain ⟨⟨i1, i2⟩, ⟨l1, l2⟩, ⟨b1, b2⟩, ⟨z1, z2⟩⟩ := hok.2.2.2.2
          cases y <;> cases hnad
          · exact ⟨rfl, z1, z2, by decide, fun _ => rfl, rfl, fun _ _ => Iff.rfl⟩
          · exact ⟨rfl, b1, b2, by decide, fun _ => rfl, rfl, fun _ _ => Iff.rfl⟩
          · exact ⟨rfl, i1, i2, by decide, fun _ => rfl, rfl, fun _ _ => Iff.rfl⟩
          · exact ⟨rfl, l1, l2, by decide, fun _ => rfl, rfl, fun _ _ => Iff.rfl⟩
        obtain ⟨k1, k2, k3, k4, k5, k6, k7⟩ := key
        rw [am_sl_push] at hR
        have hR1 : cells + 1 ≤ R.cells := by
          have := hR.1
          simp at this
          omega
        have hR2 : slots + n.toNatClampNeg ≤ R.slots := by
          have := hR.2
          simp only [am_sz] at this
          omega
        refine va_newa hx hb (by rw [k1]; exact hts _ k3) k1 hK.1 hW.2 (am_D hG h) hS (fun q hq => Nat.le_trans hNs hq) k5 hn rfl (Nat.le_trans (Nat.mul_le_mul_left _ k4) hbyt) hR1 hR2 hd ?_
        intro q cA H1 hK1 hP1 hD1 hS1
        refine am_wsz fun hub => ?_
        have hq := am_fresh hG hP1 hD1 hub (by have := hW.1; omega)
        subst hq
        have hcA : cA = dT t := by
          have a1 := (hK1.2 (am_tl T dT).length (cA, ft) (by rw [List.getElem?_append_right (Nat.le_refl _), Nat.sub_self]; rfl)).2
          have a2 := (hK.1.2 t (dT t, ft) (am_tl_at k2)).2
          exact Option.some.inj (((k7 s cA).mp a1).symm.trans ((k7 s (dT t)).mp a2))
        subst hcA
        have e1 : am_ws g dT ro.length h ++ [(g (ro.length + h.length), (Sum.inl (dT t, n.toNatClampNeg, x) : va_E))] = am_ws g dT ro.length (h ++ [.inl (t, n.toNatClampNeg, x)]) := by
          rw [am_ws_push]
          show _ = _ ++ [(g (ro.length + h.length), (Sum.inl (dT t, n.toNatClampNeg, am_lx g x) : va_E))]
          rw [k6]
        rw [e1] at hP1
        have hz := am_size hG hP1 hNs hS1 hub (by have := hW.1; simp; omega)
        exact K H1 locs (cells + 1) (slots + n.toNatClampNeg) ⟨hz, hP1⟩ hS1 (by have := hW.1; rw [hz]; simp; omega) (by rw [am_sl_push]; simp only [am_sz]; omega)
      · cases hh
    · cases hh
  · cases hh
theorem am_h_nq {idx : Nat} (Cx : am_C p s m args meth c T Ts D dT g N ro mm M) (hW : am_W T D dT g N ro.length h H) (hS : va_S (fun q => N ≤ q) s.heap H locs) (hE : s.heap.size + cells = H.size) (hR : cells + h2.length ≤ R.cells + h.length ∧ slots + am_sl h2 ≤ R.slots + am_sl h) (hd : decode M.2.1 pc = .ok (.anewarray idx, 3)) (hh : am_nq T ro mm idx st h = some (st2, h2))
    (K : ∀ (H2 : Heap) (locs2 : List Loc) (cells2 slots2 : Nat), am_W T D dT g N ro.length h2 H2 → va_S (fun q => N ≤ q) s.heap H2 locs2 → s.heap.size + cells2 = H2.size → slots2 + am_sl h = slots + am_sl h2 → W p l e R s m args below meth c H2 locs2 cells2 slots2 Q (F0 m (pc + 3) ls (st2.map (am_v g)))) : W p l e R s m args below meth c H locs cells slots Q (F0 m pc ls (st.map (am_v g))) := by
  obtain ⟨hx, hb, hml, hown, hts, hnm, hM, hK, hRO, hNs, hG, hok⟩ := Cx
  unfold am_nq at hh
  split at hh
  · rename_i n r
    split at hh
    · rename_i ci t hkl
      split at hh
      · rename_i C hty
        split at hh
        · rename_i hc
          obtain ⟨hn, hbyt⟩ := hc
          cases hh
          rw [am_sl_push] at hR
          have hR1 : cells + 1 ≤ R.cells := by
            have := hR.1
            simp at this
            omega
          have hR2 : slots + n.toNatClampNeg ≤ R.slots := by
            have := hR.2
            simp only [am_sz] at this
            omega
          refine va_newq hx hb hown (hts _ ((hok.2.2.1 mm idx ci t M hkl hM).2 C hty)) (hK.2 t C hty) hK.1 hW.2 (am_D hG h) hS (fun q hq => Nat.le_trans hNs hq) hn rfl hbyt hR1 hR2 hd ?_
          intro q cA H1 hK1 hP1 hD1 hS1
          refine am_wsz fun hub => ?_
          have hq := am_fresh hG hP1 hD1 hub (by have := hW.1; omega)
          subst hq
          have hcA : cA = dT t := by
            obtain ⟨_, _, _, _, _, a1⟩ := (hK1.2 (am_tl T dT).length (cA, .object C) (by rw [List.getElem?_append_right (Nat.le_refl _), Nat.sub_self]; rfl)).2
            obtain ⟨_, _, _, _, _, a2⟩ := (hK.1.2 t (dT t, .object C) (am_tl_at hty)).2
            exact Option.some.inj (a1.symm.trans a2)
          subst hcA
          have e1 : am_ws g dT ro.length h ++ [(g (ro.length + h.length), (Sum.inl (dT t, n.toNatClampNeg, .inr (.inr (.inr (.inr (fun _ => none))))) : va_E))] = am_ws g dT ro.length (h ++ [.inl (t, n.toNatClampNeg, .inr (.inr (.inr (.inr (fun _ => none)))))]) := by
            rw [am_ws_push]
            rfl
          rw [e1] at hP1
          have hz := am_size hG hP1 hNs hS1 hub (by have := hW.1; simp; omega)
          exact K H1 locs (cells + 1) (slots + n.toNatClampNeg) ⟨hz, hP1⟩ hS1 (by have := hW.1; rw [hz]; simp; omega) (by rw [am_sl_push]; simp only [am_sz]; omega)
        · cases hh
      · cases hh
    · cases hh
  · cases hh
end AM4
