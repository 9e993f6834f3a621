theorem am_wsz {p : Program} {l : Launch} {e : Env} {R : Room} {s : State} {m : MethodId} {args : Array Value} {below : List Frame} {meth : Method} {c : Code} {H : Heap} {locs : List Loc} {cells slots : Nat} {Q : State → Prop} {f : JFrame} (k : H.size ≤ s.heap.size + cells → W p l e R s m args below meth c H locs cells slots Q f) : W p l e R s m args below meth c H locs cells slots Q f := fun T hT X => k (by rw [← hT]; exact X.heapSize) T hT X
theorem am_size {T : am_T} {D : va_G} {dT : Nat → ClassId} {g : Nat → Nat} {N k cells : Nat} {h2 : List am_E} {H1 H0 : Heap} {locs1 : List Loc} (hG : am_G g N k) (hP1 : va_P D (am_cl T) (am_ws g dT k h2) H1) (hN : N ≤ H0.size) (hS1 : va_S (fun q => N ≤ q) H0 H1 locs1) (hub : H1.size ≤ H0.size + cells) (hex : H0.size + cells = N + h2.length) : H1.size = N + h2.length := by
  rcases Nat.eq_zero_or_pos h2.length with hz | hz
  · have := hS1.1
    omega
  · obtain ⟨c, hc⟩ : ∃ c, h2[h2.length - 1]? = some c := ⟨h2[h2.length - 1], List.getElem?_eq_getElem (by omega)⟩
    have h1 := (hP1 _ _ (am_ws_at (g := g) (dT := dT) (k := k) hc)).lt
    have h2' := hG.1 (h2.length - 1)
    simp only at h1
    omega
section AM2
variable {p : Program} {l : Launch} {e : Env} {R : Room} {s : State} {m : MethodId} {args : Array Value} {below : List Frame} {meth : Method} {c : Code} {H : Heap} {locs : List Loc} {cells slots : Nat} {Q : State → Prop}
variable {T : am_T} {Ts : List Cond} {D : va_G} {dT : Nat → ClassId} {g : Nat → Nat} {N mm : Nat} {ro h h2 : List am_E} {M : am_M} {pc : Nat} {ls : Array Slot} {st st2 : List Value}
theorem am_h_gf {idx : Nat} (Cx : am_C p s m args meth c T Ts D dT g N ro mm M) (hW : am_W T D dT g N ro.length h H) (hS : va_S (fun q => N ≤ q) s.heap H locs) (hE : s.heap.size + cells = H.size) (hd : decode M.2.1 pc = .ok (.getfield idx, 3)) (hh : am_gf T ro mm idx st h = some (st2, h2))
    (K : ∀ (H2 : Heap) (locs2 : List Loc) (cells2 slots2 : Nat), am_W T D dT g N ro.length h2 H2 → va_S (fun q => N ≤ q) s.heap H2 locs2 → s.heap.size + cells2 = H2.size → slots2 + am_sl h = slots + am_sl h2 → W p l e R s m args below meth c H2 locs2 cells2 slots2 Q (F0 m (pc + 3) ls (st2.map (am_v g)))) : W p l e R s m args below meth c H locs cells slots Q (F0 m pc ls (st.map (am_v g))) := by
  obtain ⟨hx, hb, hml, hown, hts, hnm, hM, hK, hRO, hNs, hG, hok⟩ := Cx
  unfold am_gf at hh
  split at hh
  · rename_i a r
    split at hh
    · rename_i ci kf ty md hfl
      split at hh
      · rename_i cj fs hdy
        split at hh
        · rename_i hcj
          subst hcj
          split at hh
          · rename_i v hv
            cases hh
            obtain ⟨i, rfl, hi⟩ := am_dy_ok hdy
            obtain ⟨C, TT, NN, hc, hk, hlink, hty, -, -⟩ := hok.1 mm idx cj kf ty md M hfl hM
            exact va_get hx hb hts ((hok.2.1 cj C TT NN hc).1) hown hK.1 hW.2 i (am_ws_at hi) hc kf hk (hts _ hlink) (fun _ z => z) (v := am_v g v) (by show (fs.map (am_v g))[kf]? = _; rw [List.getElem?_map, hv]; rfl) hd (K H locs cells slots hW hS hE rfl)
          · cases hh
        · cases hh
      · cases hh
    · cases hh
  · cases hh
theorem am_h_pf {idx : Nat} (Cx : am_C p s m args meth c T Ts D dT g N ro mm M) (hW : am_W T D dT g N ro.length h H) (hS : va_S (fun q => N ≤ q) s.heap H locs) (hE : s.heap.size + cells = H.size) (hd : decode M.2.1 pc = .ok (.putfield idx, 3)) (hh : am_pf T ro mm idx st h = some (st2, h2))
    (K : ∀ (H2 : Heap) (locs2 : List Loc) (cells2 slots2 : Nat), am_W T D dT g N ro.length h2 H2 → va_S (fun q => N ≤ q) s.heap H2 locs2 → s.heap.size + cells2 = H2.size → slots2 + am_sl h = slots + am_sl h2 → W p l e R s m args below meth c H2 locs2 cells2 slots2 Q (F0 m (pc + 3) ls (st2.map (am_v g)))) : W p l e R s m args below meth c H locs cells slots Q (F0 m pc ls (st.map (am_v g))) := by
  obtain ⟨hx, hb, hml, hown, hts, hnm, hM, hK, hRO, hNs, hG, hok⟩ := Cx
  unfold am_pf at hh
  split at hh
  · rename_i v a r
    split at hh
    · rename_i ci kf ty md hfl
      split at hh
      · rename_i cj fs hdy
        split at hh
        · rename_i hcj
          obtain ⟨rfl, hlt, hfit, hmd⟩ := hcj
          cases hh
          obtain ⟨i, rfl, hi⟩ := am_dy_ok hdy
          obtain ⟨C, TT, NN, hc, hk, hlink, hty, h0, h2'⟩ := hok.1 mm idx cj kf ty md M hfl hM
          obtain ⟨hin, ⟨ty0, hty0, -⟩, -, hnmf, -, -⟩ := hok.2.1 cj C TT NN hc
          obtain ⟨f1, f2⟩ := am_fit_ok g hfit
          have fin : ∀ (H1 : Heap) (locs1 : List Loc), va_P D (am_cl T) ((am_ws g dT ro.length h).set i (g (ro.length + i), .inr (cj, (fs.map (am_v g)).set kf (am_v g v)))) H1 → va_D (fun q => N ≤ q) ((am_ws g dT ro.length h).set i (g (ro.length + i), .inr (cj, (fs.map (am_v g)).set kf (am_v g v)))) → va_S (fun q => N ≤ q) s.heap H1 locs1 → W p l e R s m args below meth c H1 locs1 cells slots Q (F0 m (pc + 3) ls (st2.map (am_v g))) := by
            intro H1 locs1 hP1 _ hS1
            refine am_wsz fun hub => ?_
            rw [am_up_at] at K
            have e1 : (g (ro.length + i), (Sum.inr (cj, (fs.map (am_v g)).set kf (am_v g v)) : va_E)) = (g (ro.length + i), am_lo g dT (.inr (cj, fs.set kf v))) := by
              show _ = (g (ro.length + i), (Sum.inr (cj, (fs.set kf v).map (am_v g)) : va_E))
              rw [List.map_set]
            rw [e1, ← am_ws_set] at hP1
            have hz := am_size hG hP1 hNs hS1 hub (by rw [hE, hW.1]; simp)
            exact K H1 locs1 cells slots ⟨hz, hP1⟩ hS1 (by rw [hE, hW.1, hz]; simp) (by rw [am_sl_set hi (by simp [am_sz])])
          rcases hmd with hmd | hmd
          · exact va_put hx hb hts hin ty0 hty0 hnmf hown hK.1 hW.2 (am_D hG h) hS i (am_ws_at hi) hc kf hk (hts _ hlink) (fun _ z => z) (h0 hmd) hty f1 f2 (by simpa using hlt) hd fin
          · obtain ⟨q1, q2, q3⟩ := h2' hmd
            exact va_putF hx hb hts hin ty0 hty0 hnmf hown hK.1 hW.2 (am_D hG h) hS i (am_ws_at hi) hc kf hk (hts _ hlink) (fun _ z => z) q1 (hnm q3) q2 hty f1 f2 (by simpa using hlt) hd fin
        · cases hh
      · cases hh
    · cases hh
  · cases hh
end AM2
