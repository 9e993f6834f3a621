section AM3
variable {p : Program} {l : Launch} {e : Env} {R : Room} {s : State} {m : MethodId} {args : Array Value} {below : List Frame} {meth : Method} {c : Code} {H : Heap} {locs : List Loc} {cells slots : Nat} {Q : State → Prop}
variable {T : am_T} {Ts : List Cond} {D : va_G} {dT : Nat → ClassId} {g : Nat → Nat} {N mm : Nat} {ro h h2 : List am_E} {M : am_M} {pc : Nat} {ls : Array Slot} {st st2 : List Value}

theorem am_h_ial (Cx : am_C p s m args meth c T Ts D dT g N ro mm M) (hW : am_W T D dT g N ro.length h H) (hS : va_S (fun q => N ≤ q) s.heap H locs) (hE : s.heap.size + cells = H.size) (hd : decode M.2.1 pc = .ok (.iaload, 1)) (hh : am_ial ro st h = some (st2, h2))
    (K : ∀ (H2 : Heap) (locs2 : List Loc) (cells2 slots2 : Nat), am_W T D dT g N ro.length h2 H2 → va_S (fun q => N ≤ q) s.heap H2 locs2 → s.heap.size + cells2 = H2.size → slots2 + am_sl h = slots + am_sl h2 → W p l e R s m args below meth c H2 locs2 cells2 slots2 Q (F0 m (pc + 1) ls (st2.map (am_v g)))) : W p l e R s m args below meth c H locs cells slots Q (F0 m pc ls (st.map (am_v g))) := by
  obtain ⟨hx, hb, hml, hown, hts, hnm, hM, hK, hRO, hNs, hG, hok⟩ := Cx
  unfold am_ial at hh
  split at hh
  · rename_i i a r
    split at hh
    · rename_i t n f hdy
      split at hh
      · rename_i hc
        obtain ⟨rfl, hin⟩ := hc
        cases hh
        rcases am_at_ok hdy with hr | ⟨j, rfl, hi⟩
        · exact va_ti hx hb (hRO.1 a 0 n _ _ hr hok.2.2.2.2.1.1) hS (am_iin_ok hin) rfl hd (K H locs cells slots hW hS hE rfl)
        · exact va_iald hx hb hK.1 hW.2 j 0 (am_ws_at hi) (am_tl_at hok.2.2.2.2.1.1) (am_iin_ok hin) hd (K H locs cells slots hW hS hE rfl)
      · cases hh
    · cases hh
  · cases hh
theorem am_h_lal (Cx : am_C p s m args meth c T Ts D dT g N ro mm M) (hW : am_W T D dT g N ro.length h H) (hS : va_S (fun q => N ≤ q) s.heap H locs) (hE : s.heap.size + cells = H.size) (hd : decode M.2.1 pc = .ok (.laload, 1)) (hh : am_lal ro st h = some (st2, h2))
    (K : ∀ (H2 : Heap) (locs2 : List Loc) (cells2 slots2 : Nat), am_W T D dT g N ro.length h2 H2 → va_S (fun q => N ≤ q) s.heap H2 locs2 → s.heap.size + cells2 = H2.size → slots2 + am_sl h = slots + am_sl h2 → W p l e R s m args below meth c H2 locs2 cells2 slots2 Q (F0 m (pc + 1) ls (st2.map (am_v g)))) : W p l e R s m args below meth c H locs cells slots Q (F0 m pc ls (st.map (am_v g))) := by
  obtain ⟨hx, hb, hml, hown, hts, hnm, hM, hK, hRO, hNs, hG, hok⟩ := Cx
  unfold am_lal at hh
  split at hh
  · rename_i i a r
    split at hh
    · rename_i t n f hdy
      split at hh
      · rename_i hc
        obtain ⟨rfl, hin⟩ := hc
        cases hh
        rcases am_at_ok hdy with hr | ⟨j, rfl, hi⟩
        · exact va_tl hx hb (hRO.1 a 1 n _ _ hr hok.2.2.2.2.2.1.1) hS (am_iin_ok hin) rfl hd (K H locs cells slots hW hS hE rfl)
        · exact va_lald hx hb hK.1 hW.2 j 1 (am_ws_at hi) (am_tl_at hok.2.2.2.2.2.1.1) (am_iin_ok hin) hd (K H locs cells slots hW hS hE rfl)
      · cases hh
    · cases hh
  · cases hh
theorem am_h_bal (Cx : am_C p s m args meth c T Ts D dT g N ro mm M) (hW : am_W T D dT g N ro.length h H) (hS : va_S (fun q => N ≤ q) s.heap H locs) (hE : s.heap.size + cells = H.size) (hd : decode M.2.1 pc = .ok (.baload, 1)) (hh : am_bal ro st h = some (st2, h2))
    (K : ∀ (H2 : Heap) (locs2 : List Loc) (cells2 slots2 : Nat), am_W T D dT g N ro.length h2 H2 → va_S (fun q => N ≤ q) s.heap H2 locs2 → s.heap.size + cells2 = H2.size → slots2 + am_sl h = slots + am_sl h2 → W p l e R s m args below meth c H2 locs2 cells2 slots2 Q (F0 m (pc + 1) ls (st2.map (am_v g)))) : W p l e R s m args below meth c H locs cells slots Q (F0 m pc ls (st.map (am_v g))) := by
  obtain ⟨hx, hb, hml, hown, hts, hnm, hM, hK, hRO, hNs, hG, hok⟩ := Cx
  unfold am_bal at hh
  split at hh
  · rename_i i a r
    split at hh
    · rename_i t n f hdy
      split at hh
      · rename_i hc
        obtain ⟨ht, hin⟩ := hc
        cases hh
        obtain ⟨j, rfl, hi⟩ := am_dy_ok hdy
        rcases ht with rfl | rfl
        · exact va_bald hx hb hK.1 hW.2 j 2 (am_ws_at hi) (am_tl_at hok.2.2.2.2.2.2.1.1) (am_iin_ok hin) hd (K H locs cells slots hW hS hE rfl)
        · exact va_zald hx hb hK.1 hW.2 j 3 (am_ws_at hi) (am_tl_at hok.2.2.2.2.2.2.2.1) (am_iin_ok hin) hd (K H locs cells slots hW hS hE rfl)
      · cases hh
    · cases hh
  · cases hh
theorem am_v_rf (g : Nat → Nat) (r : Option Nat) : am_v g (va_rf r) = va_rf (r.map g) := by cases r <;> rfl
theorem am_h_aal (Cx : am_C p s m args meth c T Ts D dT g N ro mm M) (hW : am_W T D dT g N ro.length h H) (hS : va_S (fun q => N ≤ q) s.heap H locs) (hE : s.heap.size + cells = H.size) (hd : decode M.2.1 pc = .ok (.aaload, 1)) (hh : am_aal T ro st h = some (st2, h2))
    (K : ∀ (H2 : Heap) (locs2 : List Loc) (cells2 slots2 : Nat), am_W T D dT g N ro.length h2 H2 → va_S (fun q => N ≤ q) s.heap H2 locs2 → s.heap.size + cells2 = H2.size → slots2 + am_sl h = slots + am_sl h2 → W p l e R s m args below meth c H2 locs2 cells2 slots2 Q (F0 m (pc + 1) ls (st2.map (am_v g)))) : W p l e R s m args below meth c H locs cells slots Q (F0 m pc ls (st.map (am_v g))) := by
  obtain ⟨hx, hb, hml, hown, hts, hnm, hM, hK, hRO, hNs, hG, hok⟩ := Cx
  unfold am_aal at hh
  split at hh
  · rename_i i a r
    split at hh
    · rename_i t n f hdy
      split at hh
      · rename_i C hty
        split at hh
        · rename_i hin
          cases hh
          obtain ⟨j, rfl, hi⟩ := am_dy_ok hdy
          refine va_aldq hx hb hK.1 hW.2 j t (am_ws_at hi) (am_tl_at hty) (am_iin_ok hin) hd ?_
          have := K H locs cells slots hW hS hE rfl
          rw [List.map_cons, am_v_rf] at this
          exact this
        · cases hh
      · cases hh
    · cases hh
  · cases hh
theorem am_h_ias (Cx : am_C p s m args meth c T Ts D dT g N ro mm M) (hW : am_W T D dT g N ro.length h H) (hS : va_S (fun q => N ≤ q) s.heap H locs) (hE : s.heap.size + cells = H.size) (hd : decode M.2.1 pc = .ok (.iastore, 1)) (hh : am_ias ro st h = some (st2, h2))
    (K : ∀ (H2 : Heap) (locs2 : List Loc) (cells2 slots2 : Nat), am_W T D dT g N ro.length h2 H2 → va_S (fun q => N ≤ q) s.heap H2 locs2 → s.heap.size + cells2 = H2.size → slots2 + am_sl h = slots + am_sl h2 → W p l e R s m args below meth c H2 locs2 cells2 slots2 Q (F0 m (pc + 1) ls (st2.map (am_v g)))) : W p l e R s m args below meth c H locs cells slots Q (F0 m pc ls (st.map (am_v g))) := by
  obtain ⟨hx, hb, hml, hown, hts, hnm, hM, hK, hRO, hNs, hG, hok⟩ := Cx
  unfold am_ias at hh
  split at hh
  · rename_i x i a r
    split at hh
    · rename_i t n f hdy
      split at hh
      · rename_i hc
        obtain ⟨rfl, hin⟩ := hc
        cases hh
        obtain ⟨j, rfl, hi⟩ := am_dy_ok hdy
        refine va_iast hx hb hK.1 hW.2 (am_D hG h) hS j 0 (am_ws_at hi) (am_tl_at hok.2.2.2.2.1.1) (am_iin_ok hin) hd ?_
        intro H1 locs1 hP1 _ hS1
        refine am_wsz fun hub => ?_
        rw [am_up_at] at K
        have e1 : (g (ro.length + j), (Sum.inl (dT 0, n, .inl (upd f i.toNatClampNeg x)) : va_E)) = (g (ro.length + j), am_lo g dT (.inl (0, n, .inl (upd f i.toNatClampNeg x)))) := rfl
        rw [e1, ← am_ws_set] at hP1
        have hz := am_size hG hP1 hNs hS1 hub (by rw [hE, hW.1]; simp)
        exact K H1 locs1 cells slots ⟨hz, hP1⟩ hS1 (by rw [hE, hW.1, hz]; simp) (by rw [am_sl_set hi (by simp [am_sz])])
      · cases hh
    · cases hh
  · cases hh
theorem am_h_las (Cx : am_C p s m args meth c T Ts D dT g N ro mm M) (hW : am_W T D dT g N ro.length h H) (hS : va_S (fun q => N ≤ q) s.heap H locs) (hE : s.heap.size + cells = H.size) (hd : decode M.2.1 pc = .ok (.lastore, 1)) (hh : am_las ro st h = some (st2, h2))
    (K : ∀ (H2 : Heap) (locs2 : List Loc) (cells2 slots2 : Nat), am_W T D dT g N ro.length h2 H2 → va_S (fun q => N ≤ q) s.heap H2 locs2 → s.heap.size + cells2 = H2.size → slots2 + am_sl h = slots + am_sl h2 → W p l e R s m args below meth c H2 locs2 cells2 slots2 Q (F0 m (pc + 1) ls (st2.map (am_v g)))) : W p l e R s m args below meth c H locs cells slots Q (F0 m pc ls (st.map (am_v g))) := by
  obtain ⟨hx, hb, hml, hown, hts, hnm, hM, hK, hRO, hNs, hG, hok⟩ := Cx
  unfold am_las at hh
  split at hh
  · rename_i x i a r
    split at hh
    · rename_i t n f hdy
      split at hh
      · rename_i hc
        obtain ⟨rfl, hin⟩ := hc
        cases hh
        obtain ⟨j, rfl, hi⟩ := am_dy_ok hdy
        refine va_last hx hb hK.1 hW.2 (am_D hG h) hS j 1 (am_ws_at hi) (am_tl_at hok.2.2.2.2.2.1.1) (am_iin_ok hin) hd ?_
        intro H1 locs1 hP1 _ hS1
        refine am_wsz fun hub => ?_
        rw [am_up_at] at K
        have e1 : (g (ro.length + j), (Sum.inl (dT 1, n, .inr (.inl (vp_updL f i.toNatClampNeg x))) : va_E)) = (g (ro.length + j), am_lo g dT (.inl (1, n, .inr (.inl (vp_updL f i.toNatClampNeg x))))) := rfl
        rw [e1, ← am_ws_set] at hP1
        have hz := am_size hG hP1 hNs hS1 hub (by rw [hE, hW.1]; simp)
        exact K H1 locs1 cells slots ⟨hz, hP1⟩ hS1 (by rw [hE, hW.1, hz]; simp) (by rw [am_sl_set hi (by simp [am_sz])])
      · cases hh
    · cases hh
  · cases hh
theorem am_h_bas (Cx : am_C p s m args meth c T Ts D dT g N ro mm M) (hW : am_W T D dT g N ro.length h H) (hS : va_S (fun q => N ≤ q) s.heap H locs) (hE : s.heap.size + cells = H.size) (hd : decode M.2.1 pc = .ok (.bastore, 1)) (hh : am_bas ro st h = some (st2, h2))
    (K : ∀ (H2 : Heap) (locs2 : List Loc) (cells2 slots2 : Nat), am_W T D dT g N ro.length h2 H2 → va_S (fun q => N ≤ q) s.heap H2 locs2 → s.heap.size + cells2 = H2.size → slots2 + am_sl h = slots + am_sl h2 → W p l e R s m args below meth c H2 locs2 cells2 slots2 Q (F0 m (pc + 1) ls (st2.map (am_v g)))) : W p l e R s m args below meth c H locs cells slots Q (F0 m pc ls (st.map (am_v g))) := by
  obtain ⟨hx, hb, hml, hown, hts, hnm, hM, hK, hRO, hNs, hG, hok⟩ := Cx
  unfold am_bas at hh
  split at hh
  · rename_i x i a r
    split at hh
    · rename_i t n f hdy
      split at hh
      · rename_i hin
        split at hh
        · rename_i ht
          subst ht
          cases hh
          obtain ⟨j, rfl, hi⟩ := am_dy_ok hdy
          refine va_bast hx hb hK.1 hW.2 (am_D hG h) hS j 2 (am_ws_at hi) (am_tl_at hok.2.2.2.2.2.2.1.1) (am_iin_ok hin) hd ?_
          intro H1 locs1 hP1 _ hS1
          refine am_wsz fun hub => ?_
          rw [am_up_at] at K
          have e1 : (g (ro.length + j), (Sum.inl (dT 2, n, .inl (upd f i.toNatClampNeg (vp_nar .byte x))) : va_E)) = (g (ro.length + j), am_lo g dT (.inl (2, n, .inl (upd f i.toNatClampNeg x.toInt8.toInt32)))) := rfl
          rw [e1, ← am_ws_set] at hP1
          have hz := am_size hG hP1 hNs hS1 hub (by rw [hE, hW.1]; simp)
          exact K H1 locs1 cells slots ⟨hz, hP1⟩ hS1 (by rw [hE, hW.1, hz]; simp) (by rw [am_sl_set hi (by simp [am_sz])])
        · split at hh
          · rename_i ht
            subst ht
            cases hh
            obtain ⟨j, rfl, hi⟩ := am_dy_ok hdy
            refine va_zast hx hb hK.1 hW.2 (am_D hG h) hS j 3 (am_ws_at hi) (am_tl_at hok.2.2.2.2.2.2.2.1) (am_iin_ok hin) hd ?_
            intro H1 locs1 hP1 _ hS1
            refine am_wsz fun hub => ?_
            rw [am_up_at] at K
            have e1 : (g (ro.length + j), (Sum.inl (dT 3, n, .inl (upd f i.toNatClampNeg (vp_nar .boolean x))) : va_E)) = (g (ro.length + j), am_lo g dT (.inl (3, n, .inl (upd f i.toNatClampNeg (x &&& 1))))) := rfl
            rw [e1, ← am_ws_set] at hP1
            have hz := am_size hG hP1 hNs hS1 hub (by rw [hE, hW.1]; simp)
            exact K H1 locs1 cells slots ⟨hz, hP1⟩ hS1 (by rw [hE, hW.1, hz]; simp) (by rw [am_sl_set hi (by simp [am_sz])])
          · cases hh
      · cases hh
    · cases hh
  · cases hh
theorem am_up_map (g : Nat → Nat) (f : Nat → Option Nat) (i : Nat) (v : Option Nat) : (fun j => (va_up f i v j).map g) = va_up (fun j => (f j).map g) i (v.map g) := by
  funext j
  unfold va_up
  split <;> rfl
theorem am_h_aas (Cx : am_C p s m args meth c T Ts D dT g N ro mm M) (hW : am_W T D dT g N ro.length h H) (hS : va_S (fun q => N ≤ q) s.heap H locs) (hE : s.heap.size + cells = H.size) (hd : decode M.2.1 pc = .ok (.aastore, 1)) (hh : am_aas T ro st h = some (st2, h2))
    (K : ∀ (H2 : Heap) (locs2 : List Loc) (cells2 slots2 : Nat), am_W T D dT g N ro.length h2 H2 → va_S (fun q => N ≤ q) s.heap H2 locs2 → s.heap.size + cells2 = H2.size → slots2 + am_sl h = slots + am_sl h2 → W p l e R s m args below meth c H2 locs2 cells2 slots2 Q (F0 m (pc + 1) ls (st2.map (am_v g)))) : W p l e R s m args below meth c H locs cells slots Q (F0 m pc ls (st.map (am_v g))) := by
  obtain ⟨hx, hb, hml, hown, hts, hnm, hM, hK, hRO, hNs, hG, hok⟩ := Cx
  unfold am_aas at hh
  split at hh
  · rename_i i a r
    split at hh
    · rename_i t n f hdy
      split at hh
      · rename_i C hty
        split at hh
        · rename_i hin
          cases hh
          obtain ⟨j, rfl, hi⟩ := am_dy_ok hdy
          refine va_astqN hx hb hK.1 hW.2 (am_D hG h) hS j t (am_ws_at hi) (am_tl_at hty) (am_iin_ok hin) hd ?_
          intro H1 locs1 hP1 _ hS1
          refine am_wsz fun hub => ?_
          rw [am_up_at] at K
          have e1 : (g (ro.length + j), (Sum.inl (dT t, n, .inr (.inr (.inr (.inr (va_up (fun j => (f j).map g) i.toNatClampNeg none))))) : va_E)) = (g (ro.length + j), am_lo g dT (.inl (t, n, .inr (.inr (.inr (.inr (va_up f i.toNatClampNeg none))))))) := by show _ = (g (ro.length + j), (Sum.inl (dT t, n, .inr (.inr (.inr (.inr (fun j => (va_up f i.toNatClampNeg none j).map g))))) : va_E)); rw [am_up_map]; rfl
          rw [e1, ← am_ws_set] at hP1
          have hz := am_size hG hP1 hNs hS1 hub (by rw [hE, hW.1]; simp)
          exact K H1 locs1 cells slots ⟨hz, hP1⟩ hS1 (by rw [hE, hW.1, hz]; simp) (by rw [am_sl_set hi (by simp [am_sz])])
        · cases hh
      · cases hh
    · cases hh
  · rename_i v i a r
    split at hh
    · rename_i t n f cj vs hdy hdv
      split at hh
      · rename_i C C2 TT NN hty hcl
        split at hh
        · rename_i hc
          obtain ⟨rfl, hin⟩ := hc
          cases hh
          obtain ⟨j, rfl, hi⟩ := am_dy_ok hdy
          obtain ⟨jv, rfl, hiv⟩ := am_dy_ok hdv
          refine va_astq (r := (C, TT, NN)) hx hb hK.1 hW.2 (am_D hG h) hS j t jv cj (am_ws_at hi) (am_tl_at hty) (am_ws_at hiv) hcl (am_iin_ok hin) hd ?_
          intro H1 locs1 hP1 _ hS1
          refine am_wsz fun hub => ?_
          rw [am_up_at] at K
          have e1 : (g (ro.length + j), (Sum.inl (dT t, n, .inr (.inr (.inr (.inr (va_up (fun j => (f j).map g) i.toNatClampNeg (some (g (ro.length + jv)))))))) : va_E)) = (g (ro.length + j), am_lo g dT (.inl (t, n, .inr (.inr (.inr (.inr (va_up f i.toNatClampNeg (some (ro.length + jv))))))))) := by show _ = (g (ro.length + j), (Sum.inl (dT t, n, .inr (.inr (.inr (.inr (fun j => (va_up f i.toNatClampNeg (some (ro.length + jv)) j).map g))))) : va_E)); rw [am_up_map]; rfl
          rw [e1, ← am_ws_set] at hP1
          have hz := am_size hG hP1 hNs hS1 hub (by rw [hE, hW.1]; simp)
          exact K H1 locs1 cells slots ⟨hz, hP1⟩ hS1 (by rw [hE, hW.1, hz]; simp) (by rw [am_sl_set hi (by simp [am_sz])])
        · cases hh
      · cases hh
    · cases hh
  · cases hh
theorem am_h_aln (Cx : am_C p s m args meth c T Ts D dT g N ro mm M) (hW : am_W T D dT g N ro.length h H) (hS : va_S (fun q => N ≤ q) s.heap H locs) (hE : s.heap.size + cells = H.size) (hd : decode M.2.1 pc = .ok (.arraylength, 1)) (hh : am_aln T ro st h = some (st2, h2))
    (K : ∀ (H2 : Heap) (locs2 : List Loc) (cells2 slots2 : Nat), am_W T D dT g N ro.length h2 H2 → va_S (fun q => N ≤ q) s.heap H2 locs2 → s.heap.size + cells2 = H2.size → slots2 + am_sl h = slots + am_sl h2 → W p l e R s m args below meth c H2 locs2 cells2 slots2 Q (F0 m (pc + 1) ls (st2.map (am_v g)))) : W p l e R s m args below meth c H locs cells slots Q (F0 m pc ls (st.map (am_v g))) := by
  obtain ⟨hx, hb, hml, hown, hts, hnm, hM, hK, hRO, hNs, hG, hok⟩ := Cx
  unfold am_aln at hh
  split at hh
  · rename_i a r
    split at hh
    · rename_i t n x hdy
      split at hh
      · rename_i y hty
        cases hh
        rcases am_at_ok hdy with hr | ⟨j, rfl, hi⟩
        · exact va_tlen hx hb (hRO.1 a t n _ _ hr hty) hS rfl hd (K H locs cells slots hW hS hE rfl)
        · exact va_alen hx hb hK.1 hW.2 j t (am_ws_at hi) (am_tl_at hty) rfl hd (K H locs cells slots hW hS hE rfl)
      · cases hh
    · cases hh
  · cases hh
theorem am_h_ldc {idx : Nat} (Cx : am_C p s m args meth c T Ts D dT g N ro mm M) (hW : am_W T D dT g N ro.length h H) (hS : va_S (fun q => N ≤ q) s.heap H locs) (hE : s.heap.size + cells = H.size) (hd : decode M.2.1 pc = .ok (.ldc idx, 2)) (hh : am_ldc T mm idx st h = some (st2, h2))
    (K : ∀ (H2 : Heap) (locs2 : List Loc) (cells2 slots2 : Nat), am_W T D dT g N ro.length h2 H2 → va_S (fun q => N ≤ q) s.heap H2 locs2 → s.heap.size + cells2 = H2.size → slots2 + am_sl h = slots + am_sl h2 → W p l e R s m args below meth c H2 locs2 cells2 slots2 Q (F0 m (pc + 2) ls (st2.map (am_v g)))) : W p l e R s m args below meth c H locs cells slots Q (F0 m pc ls (st.map (am_v g))) := by
  obtain ⟨hx, hb, hml, hown, hts, hnm, hM, hK, hRO, hNs, hG, hok⟩ := Cx
  unfold am_ldc at hh
  split at hh
  · rename_i x hcs
    cases hh
    exact lv_ldc hx hb hown (hts _ ((hok.2.2.2.1 mm idx _ M hcs hM).1 x rfl)) hd (K H locs cells slots hW hS hE rfl)
  · cases hh
theorem am_h_ldcw {idx : Nat} (Cx : am_C p s m args meth c T Ts D dT g N ro mm M) (hW : am_W T D dT g N ro.length h H) (hS : va_S (fun q => N ≤ q) s.heap H locs) (hE : s.heap.size + cells = H.size) (hd : decode M.2.1 pc = .ok (.ldc_w idx, 3)) (hh : am_ldc T mm idx st h = some (st2, h2))
    (K : ∀ (H2 : Heap) (locs2 : List Loc) (cells2 slots2 : Nat), am_W T D dT g N ro.length h2 H2 → va_S (fun q => N ≤ q) s.heap H2 locs2 → s.heap.size + cells2 = H2.size → slots2 + am_sl h = slots + am_sl h2 → W p l e R s m args below meth c H2 locs2 cells2 slots2 Q (F0 m (pc + 3) ls (st2.map (am_v g)))) : W p l e R s m args below meth c H locs cells slots Q (F0 m pc ls (st.map (am_v g))) := by
  obtain ⟨hx, hb, hml, hown, hts, hnm, hM, hK, hRO, hNs, hG, hok⟩ := Cx
  unfold am_ldc at hh
  split at hh
  · rename_i x hcs
    cases hh
    exact lv_ldcw hx hb hown (hts _ ((hok.2.2.2.1 mm idx _ M hcs hM).1 x rfl)) hd (K H locs cells slots hW hS hE rfl)
  · cases hh
theorem am_h_ldw {idx : Nat} (Cx : am_C p s m args meth c T Ts D dT g N ro mm M) (hW : am_W T D dT g N ro.length h H) (hS : va_S (fun q => N ≤ q) s.heap H locs) (hE : s.heap.size + cells = H.size) (hd : decode M.2.1 pc = .ok (.ldc2_w idx, 3)) (hh : am_ldw T mm idx st h = some (st2, h2))
    (K : ∀ (H2 : Heap) (locs2 : List Loc) (cells2 slots2 : Nat), am_W T D dT g N ro.length h2 H2 → va_S (fun q => N ≤ q) s.heap H2 locs2 → s.heap.size + cells2 = H2.size → slots2 + am_sl h = slots + am_sl h2 → W p l e R s m args below meth c H2 locs2 cells2 slots2 Q (F0 m (pc + 3) ls (st2.map (am_v g)))) : W p l e R s m args below meth c H locs cells slots Q (F0 m pc ls (st.map (am_v g))) := by
  obtain ⟨hx, hb, hml, hown, hts, hnm, hM, hK, hRO, hNs, hG, hok⟩ := Cx
  unfold am_ldw at hh
  split at hh
  · rename_i x hcs
    cases hh
    exact lv_ldc2 hx hb hown (hts _ ((hok.2.2.2.1 mm idx _ M hcs hM).2.1 x rfl)) hd (K H locs cells slots hW hS hE rfl)
  · cases hh
theorem am_h_gs {idx : Nat} (Cx : am_C p s m args meth c T Ts D dT g N ro mm M) (hW : am_W T D dT g N ro.length h H) (hS : va_S (fun q => N ≤ q) s.heap H locs) (hE : s.heap.size + cells = H.size) (hd : decode M.2.1 pc = .ok (.getstatic idx, 3)) (hh : am_gs T mm idx st h = some (st2, h2))
    (K : ∀ (H2 : Heap) (locs2 : List Loc) (cells2 slots2 : Nat), am_W T D dT g N ro.length h2 H2 → va_S (fun q => N ≤ q) s.heap H2 locs2 → s.heap.size + cells2 = H2.size → slots2 + am_sl h = slots + am_sl h2 → W p l e R s m args below meth c H2 locs2 cells2 slots2 Q (F0 m (pc + 3) ls (st2.map (am_v g)))) : W p l e R s m args below meth c H locs cells slots Q (F0 m pc ls (st.map (am_v g))) := by
  obtain ⟨hx, hb, hml, hown, hts, hnm, hM, hK, hRO, hNs, hG, hok⟩ := Cx
  unfold am_gs at hh
  split at hh
  · rename_i a hcs
    cases hh
    obtain ⟨q, hq, rfl, hlk⟩ := (hok.2.2.2.1 mm idx _ M hcs hM).2.2 a rfl
    exact va_gets hx hb (hRO.2.1 q hq) hS hown (hts _ hlk) (fun _ z => z) hd (K H locs cells slots hW hS hE rfl)
  · cases hh
end AM3
