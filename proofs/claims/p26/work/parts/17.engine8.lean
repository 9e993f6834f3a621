def am_gd (Ts : List Cond) : Prop := ∀ w ∈ Ts, (w.onTables && w.keeps) = true ∨ ∃ ty, w = .arrayClass ty
def am_okI (T : am_T) : Prop := ∀ (m pc : Nat) (i : Instr) (len : Nat) (M : am_M), am_in T m pc = some (i, len) → am_mt T m = some M → decode M.2.1 pc = .ok (i, len) ∧ (am_ln i = 0 ∨ am_ln i = len)
def am_okM (T : am_T) (Ts Ls : List Cond) : Prop := ∀ (m idx k kd ci : Nat) (M : am_M), am_ml T m idx = some (k, kd, ci) → am_mt T m = some M →
  (kd = 4 → Cond.methodLink M.1.cls idx objectInit ∈ Ts ∧ Cond.instanceMethod objectInit ∈ Ts ∧ Cond.code objectInit ⟨#[0xb1]⟩ 1 none ∈ Ts) ∧
  (kd = 5 → Cond.methodLink M.1.cls idx arraycopyName ∈ Ts ∧ Cond.native arraycopyName ∈ Ts ∧ Cond.static arraycopyName ∈ Ts ∧ Cond.initialized "java/lang/System" ∈ Ts) ∧
  ∀ M2, am_mt T k = some M2 → kd < 4 → plainFor M2.1 = true ∧ (M2.1.cls ≠ "java/lang/invoke/MethodHandle" ∧ M2.1.cls ≠ "java/lang/invoke/VarHandle" ∧ (parseMethodDescriptor M2.1.desc).map (fun d => d.parameters.length) = some M2.2.2.2.2) ∧ Cond.code M2.1 M2.2.1 M2.2.2.1 M2.2.2.2.1 ∈ Ts ∧ Cond.initialized M2.1.cls ∈ Ts ∧ (kd ≠ 3 → Cond.methodLink M.1.cls idx M2.1 ∈ Ts) ∧ (kd = 0 → Cond.static M2.1 ∈ Ts) ∧ (kd = 1 → Cond.instanceMethod M2.1 ∈ Ts ∧ Cond.selects M2.1.cls M2.1 M2.1 ∈ Ts ∧ ∃ (TT : u_T) (NN : Nat), (am_cl T)[ci]? = some (M2.1.cls, TT, NN)) ∧ (kd = 2 ∨ kd = 3 → M2.1.name = "<init>" ∧ Cond.instanceMethod M2.1 ∈ Ts ∧ M2.2.2.2.1 = none) ∧ (kd = 3 → ∃ host, Cond.methodLinkNest M.1.cls idx M2.1 host ∈ Ls)
def am_Nst (Ls : List Cond) (s : State) : Prop := ∀ (own : String) (idx : Nat) (y : MethodName) (host : String), Cond.methodLinkNest own idx y host ∈ Ls → va_Nw (.methodLinkNest own idx y host) s
def am_I (T : am_T) (Ls : List Cond) (D : va_G) (dT : Nat → ClassId) (g : Nat → Nat) (N : Nat) (ro h : List am_E) (U : State) : Prop := am_W T D dT g N ro.length h U.heap ∧ am_K T D dT U ∧ am_RO T g N ro U ∧ N ≤ U.heap.size ∧ am_Nst Ls U
theorem am_ST_same {N : Nat} {u U : State} (hv : U.vm = u.vm) (hh : U.heap = u.heap) (h : am_ST N u) : am_ST N U := by
  obtain ⟨⟨a, b, h1, h2⟩, h3⟩ := h
  have hal : u.vm.Alike U.vm := by rw [hv]; exact Vm.Alike.refl u.vm
  refine ⟨⟨a, b, vk_R.same hv h1, ?_⟩, ?_⟩
  · rw [hh]; exact vk_S.moved hal h2
  · rw [hh]; exact va_Z.moved hal h3
theorem am_ST_warm {N : Nat} {s U : State} {H : Heap} {locs : List Loc} (hw : s.WarmedH U.vm) (h : am_ST N s) (hS : va_S (fun q => N ≤ q) s.heap H locs) (hU : U.heap = H) : am_ST N U := by
  obtain ⟨⟨a, b, h1, h2⟩, h3⟩ := h
  refine ⟨⟨a, b, vk_R.warm hw h1, ?_⟩, ?_⟩
  · rw [hU]; exact vk_S.moved hw.alike (h2.kept (fun a h3 h4 => hS.2.1 a h3 h4))
  · rw [hU]; exact va_Z.moved hw.alike (h3.kept (fun a h3 h4 => hS.2.1 a h3 h4))
theorem am_blind {T : am_T} {Ls : List Cond} {D : va_G} {dT : Nat → ClassId} {g : Nat → Nat} {N : Nat} {ro h : List am_E} {as : List Value} : FrameBlind (va_Pc as (am_I T Ls D dT g N ro h)) := by
  intro a U f mk q
  obtain ⟨q0, qW, qK, qR, qN, qL⟩ := q
  refine ⟨q0, qW, ⟨va_K.moved (u := U) (U := U.calling f mk a) (Vm.Alike.refl U.vm) qK.1, fun t C h => va_AO.moved (u := U) (U := U.calling f mk a) (Vm.Alike.refl U.vm) (qK.2 t C h)⟩, ⟨fun i t n x y h1 h2 => va_T.moved (u := U) (U := U.calling f mk a) (Vm.Alike.refl U.vm) (qR.1 i t n x y h1 h2), fun q hq => va_Z.moved (u := U) (U := U.calling f mk a) (Vm.Alike.refl U.vm) (qR.2.1 q hq), am_ST_same rfl rfl qR.2.2⟩, qN, fun own idx y host h => va_tabs rfl (rfl : U.vm = (U.calling f mk a).vm) (qL own idx y host h)⟩
theorem am_moved {T : am_T} {Ls : List Cond} {D : va_G} {dT : Nat → ClassId} {g : Nat → Nat} {N : Nat} {ro h : List am_E} {s U : State} {H : Heap} {locs : List Loc} (hW : am_W T D dT g N ro.length h H) (hK : am_K T D dT s) (hR : am_RO T g N ro s) (hN : N ≤ s.heap.size) (hL : am_Nst Ls s) (hS : va_S (fun q => N ≤ q) s.heap H locs) (hU : U.heap = H) (hw : s.WarmedH U.vm) : am_I T Ls D dT g N ro h U := by
  refine ⟨by rw [hU]; exact hW, ⟨va_K.moved hw.alike hK.1, fun t C h => va_AO.moved hw.alike (hK.2 t C h)⟩, ⟨fun i t n x y h1 h2 => ?_, fun q hq => ?_, am_ST_warm hw hR.2.2 hS hU⟩, by rw [hU]; exact Nat.le_trans hN hS.1, fun own idx y host h => va_Nw.warmM hw (hL own idx y host h)⟩
  · rw [hU]
    exact va_T.moved hw.alike ((hR.1 i t n x y h1 h2).kept (fun a h3 h4 => hS.2.1 a h3 h4))
  · rw [hU]
    exact va_Z.moved hw.alike ((hR.2.1 q hq).kept (fun a h3 h4 => hS.2.1 a h3 h4))
/-- a call, whatever it answers -/
theorem am_run_k {p : Program} {l : Launch} {e : Env} {R : Room} {s : State} {m : MethodId} {args : Array Value} {below : List Frame} {meth : Method} {c : Code} {H H0 : Heap} {locs : List Loc} {cells slots mc ms pc : Nat} {Q : State → Prop} {ls : Array Slot} {st0 rest : List Value} {Qa : State → Outcome → State → Prop} {free : Addr → Prop} {A : Nat → Prop} {v0 : Option Value} {B : State → Prop}
    (hr : va_Run p l e R s m args below meth c H locs cells slots mc ms (F0 m pc ls st0) rest Qa free) (hQ : ∀ (st₀ : State) (o : Outcome) (t : State), Qa st₀ o t → o = .returned v0 ∧ B t ∧ va_F A st₀ t) (hS : va_S A H0 H locs) (hf : ∀ q, free q → A q)
    (kk : ∀ (t : State) (H1 : Heap) (locs1 : List Loc), t.heap = H1 → B t → va_S A H0 H1 locs1 → W p l e R s m args below meth c H1 locs1 (cells + mc) (slots + ms) Q (F0 m (pc + 3) ls (v0.toList ++ rest))) : W p l e R s m args below meth c H locs cells slots Q (F0 m pc ls st0) := by
  intro T hT X
  obtain ⟨v, st₀, t, T', L, h0, X', hL, e1, e2, hq, st⟩ := hr T hT X
  obtain ⟨ho, hB, hz, hk⟩ := hQ _ _ _ hq
  cases ho
  rw [h0] at hz hk
  obtain ⟨t2, a1, b1⟩ := kk t T'.heap (locs ++ L) e1.symm hB ⟨Nat.le_trans hS.1 (by rw [e1]; exact hz), fun q h1 h2 => by rw [e1, hk q (Nat.lt_of_lt_of_le h1 hS.1) h2]; exact hS.2.1 q h1 h2, fun q hq => by
      rcases List.mem_append.mp hq with h | h
      · exact hS.2.2 q h
      · exact hf _ (hL q h)⟩ T' rfl X'
  exact ⟨t2, st t2 a1, b1⟩
/-- what n steps of the own machine say of the real one -/
def am_Snd (T : am_T) (Ts Ls : List Cond) (D : va_G) (dT : Nat → ClassId) (g : Nat → Nat) (N : Nat) (ro : List am_E) (l : Launch) (n : Nat) : Prop := ∀ (f w mm pc : Nat) (lv : List (Nat × Value)) (st : List Value) (h : List am_E) (r : Option Value) (h2 : List am_E), am_go T ro n f w mm pc lv st h = some (r, h2) →
  ∀ {p : Program} {e : Env} {R : Room} {s : State} {m : MethodId} {args : Array Value} {below : List Frame} {meth : Method} {c : Code} {H : Heap} {locs : List Loc} {cells slots : Nat} {Q : State → Prop} {ls : Array Slot} {M : am_M}, am_C p s m args meth c T Ts D dT g N ro mm M → am_Nst Ls s → am_W T D dT g N ro.length h H → va_S (fun q => N ≤ q) s.heap H locs → s.heap.size + cells = H.size → lv_has ls M.2.2.1 (lv.map (am_l g)) → f ≤ R.frames → w ≤ R.locals → cells + h2.length ≤ R.cells + h.length → slots + am_sl h2 ≤ R.slots + am_sl h →
  (∀ (H3 : Heap) (locs3 : List Loc) (cells3 slots3 pc3 : Nat) (ls3 : Array Slot) (st3 : List Value) (i : Instr) (len : Nat), am_W T D dT g N ro.length h2 H3 → va_S (fun q => N ≤ q) s.heap H3 locs3 → s.heap.size + cells3 = H3.size → slots3 + am_sl h = slots + am_sl h2 → decode M.2.1 pc3 = .ok (i, len) → (am_ln i = 0 ∨ am_ln i = len) → am_rt M.2.2.2.1 i st3 = some r → W p l e R s m args below meth c H3 locs3 cells3 slots3 Q (F0 m pc3 ls3 (st3.map (am_v g)))) →
  W p l e R s m args below meth c H locs cells slots Q (F0 m pc ls (st.map (am_v g)))
/-- what the real machine does at the constant of the signs -/
def am_Six (T : am_T) (Ts Ls : List Cond) (D : va_G) (dT : Nat → ClassId) (g : Nat → Nat) (N : Nat) (ro : List am_E) (l : Launch) : Prop := ∀ {p : Program} {e : Env} {R : Room} {s : State} {m : MethodId} {args : Array Value} {below : List Frame} {meth : Method} {c : Code} {H : Heap} {locs : List Loc} {cells slots : Nat} {Q : State → Prop} {mm pc idx k ci : Nat} {M : am_M} {ls : Array Slot} {lv : List (Nat × Value)} {st : List Value} {x : Int32}, am_ml T mm idx = some (k, 6, ci) → am_in T mm pc = some (.ldc idx, 2) → am_ld lv 2 = some (.int x) → am_C p s m args meth c T Ts D dT g N ro mm M → am_Nst Ls s → va_S (fun q => N ≤ q) s.heap H locs → s.heap.size + cells = H.size → lv_has ls M.2.2.1 (lv.map (am_l g)) → 8 ≤ R.frames → 400 ≤ R.locals → cells ≤ R.cells → slots ≤ R.slots → am_ct st ≤ 8 →
  (∀ locs1 : List Loc, va_S (fun q => N ≤ q) s.heap H locs1 → W p l e R s m args below meth c H locs1 cells slots Q (F0 m (pc + 7) ls (.int (am_ix x) :: st.map (am_v g)))) → W p l e R s m args below meth c H locs cells slots Q (F0 m pc ls (st.map (am_v g)))
theorem am_rets {p : Program} {l : Launch} {e : Env} {R : Room} {s : State} {m : MethodId} {args : Array Value} {below : List Frame} {meth : Method} {c : Code} {H : Heap} {locs : List Loc} {cells slots : Nat} {cc : ByteArray} {Qc : Array Value → State → Outcome → State → Prop} {free : Addr → Prop} {g : Nat → Nat} {ret : Option FieldType} {i : Instr} {len pc : Nat} {ls : Array Slot} {st : List Value} {r : Option Value}
    (hx : p.tables.exec = Jvm.exec) (hb : c.code = cc) (hr : meth.sig.returnType = ret) (hlocks : meth.locks = false) (hd : decode cc pc = .ok (i, len)) (hl : am_ln i = 0 ∨ am_ln i = len) (ha : am_rt ret i st = some r) (hq : ∀ t : State, t.heap = H → s.WarmedH t.vm → Qc args s (.returned (r.map (am_v g))) t) (hf : ∀ q ∈ locs, free q.base) :
    W p l e R s m args below meth c H locs cells slots (MQ below Qc args s cells slots free) (F0 m pc ls (st.map (am_v g))) := by
  unfold am_rt at ha
  split at ha
  · rename_i v
    have hd1 : decode cc pc = .ok (.ireturn, 1) := am_le hl rfl (by decide) hd
    split at ha
    · cases ha
      exact W.iret hx hb hr hq hf hd1 hlocks
    · split at ha
      · rename_i hv
        cases ha
        refine W.zret hx hb hr ?_ hq hf hd1 hlocks
        rcases hv with rfl | rfl <;> decide
      · cases ha
    · cases ha
  · rename_i v
    have hd1 : decode cc pc = .ok (.lreturn, 1) := am_le hl rfl (by decide) hd
    split at ha
    · cases ha
      exact W.lret hx hb hr hq hf hd1 hlocks
    · cases ha
  · rename_i a
    have hd1 : decode cc pc = .ok (.areturn, 1) := am_le hl rfl (by decide) hd
    split at ha
    · cases ha
      exact W.aret hx hb hr (Or.inl ⟨_, rfl⟩) (Or.inr ⟨g a, rfl⟩) hq hf hd1 hlocks
    · cases ha
      exact W.aret hx hb hr (Or.inr ⟨_, rfl⟩) (Or.inr ⟨g a, rfl⟩) hq hf hd1 hlocks
    · cases ha
  · have hd1 : decode cc pc = .ok (.areturn, 1) := am_le hl rfl (by decide) hd
    split at ha
    · cases ha
      exact W.aret hx hb hr (Or.inl ⟨_, rfl⟩) (Or.inl rfl) hq hf hd1 hlocks
    · cases ha
      exact W.aret hx hb hr (Or.inr ⟨_, rfl⟩) (Or.inl rfl) hq hf hd1 hlocks
    · cases ha
  · have hd1 : decode cc pc = .ok (.return_, 1) := am_le hl rfl (by decide) hd
    split at ha
    · cases ha
      exact W.vret hx hb hr hq hf hd1 hlocks
    · cases ha
  · cases ha
theorem am_args_map (g : Nat → Nat) : ∀ (i : Nat) (vs : List Value), lv_args i (vs.map (am_v g)) = (lv_args i vs).map (am_l g)
  | _, [] => rfl
  | i, v :: vs => by
    rw [List.map_cons, lv_args, lv_args, List.map_cons, am_v_cat, am_args_map g _ vs]
    rfl
theorem am_met {T : am_T} {Ts Ls : List Cond} {D : va_G} {dT : Nat → ClassId} {g : Nat → Nat} {N : Nat} {ro : List am_E} {l : Launch} {n : Nat} (ih : am_Snd T Ts Ls D dT g N ro l n) (hG : am_G g N ro.length) (hok : am_ok T Ts) {f w mm : Nat} {as : List Value} {h h2 : List am_E} {r : Option Value} {M : am_M} (hgo : am_go T ro n f w mm 0 (lv_args 0 as) [] h = some (r, h2)) (hM : am_mt T mm = some M) (hpl : plainFor M.1 = true) (hct : am_ct as ≤ M.2.2.1) :
    Met l M.1 (Cond.code M.1 M.2.1 M.2.2.1 M.2.2.2.1 :: Ts) ({ frames := f, cells := h2.length - h.length, slots := am_sl h2 - am_sl h, locals := w }) (va_Pc (as.map (am_v g)) (am_I T Ls D dT g N ro h)) (fun _ st o t => o = .returned (r.map (am_v g)) ∧ am_W T D dT g N ro.length h2 t.heap ∧ va_F (fun q => N ≤ q) st t) (h2.length - h.length) (am_sl h2 - am_sl h) (fun q => N ≤ q) := by
  have hgr := am_go_grow T ro n _ _ _ _ _ _ _ _ _ hgo
  refine va_MetF (cc := M.2.1) (maxL := M.2.2.1) (ret := M.2.2.2.1) hpl rfl ?_
  intro p e s m args below meth c s₁ B hml hv
  obtain ⟨rfl, hW, hK, hRO, hN, hL⟩ := hv
  have hts := atoms_spec (ws := Cond.code M.1 M.2.1 M.2.2.1 M.2.2.2.1 :: Ts) B.pre
  have hl := lv_entry (as.map (am_v g)) (n := M.2.2.1) (by rw [am_sl_len]; unfold am_ct; rw [am_ct_map]; exact hct)
  rw [lg_entry_eq]
  generalize (lg_sl (as.map (am_v g)) ++ List.replicate (M.2.2.1 - (lg_sl (as.map (am_v g))).length) Slot.unset).toArray = ls at hl ⊢
  rw [am_args_map] at hl
  have hsz := hW.1
  have key := ih f w mm 0 (lv_args 0 as) [] h r h2 hgo (p := p) (e := e) (R := (headSpec (Cond.code M.1 M.2.1 M.2.2.1 M.2.2.2.1 :: Ts) ({ frames := f, cells := h2.length - h.length, slots := am_sl h2 - am_sl h, locals := w })).room) (s := s) (m := m) (args := (as.map (am_v g)).toArray) (below := below) (meth := meth) (c := c) (H := s.heap) (locs := []) (cells := 0) (slots := 0) (Q := MQ below (fun _ st o t => o = .returned (r.map (am_v g)) ∧ am_W T D dT g N ro.length h2 t.heap ∧ va_F (fun q => N ≤ q) st t) (as.map (am_v g)).toArray s (h2.length - h.length) (am_sl h2 - am_sl h) (fun q => N ≤ q)) (ls := ls) (M := M)
    ⟨B.exec, B.bytes, hml, findClass_of_methodNamed B.named, fun w hw => hts w (List.mem_cons_of_mem _ hw), fun z => (name_of_methodNamed B.named B.method).1.trans z, hM, hK, hRO, hN, hG, hok⟩ hL hW va_S.rf (by omega) hl (Nat.le_refl _) (Nat.le_refl _) (by show 0 + h2.length ≤ (h2.length - h.length) + h.length; have := hgr.1; omega) (by show 0 + am_sl h2 ≤ (am_sl h2 - am_sl h) + am_sl h; have := hgr.2; omega) ?_
  · exact key
  · intro H3 locs3 cells3 slots3 pc3 ls3 st3 i len hW3 hS3 hE3 hsl3 hd3 hln3 hrt3
    have e1 : cells3 = h2.length - h.length := by
      have := hW3.1
      omega
    have e2 : slots3 = am_sl h2 - am_sl h := by omega
    subst e1
    subst e2
    exact am_rets B.exec B.bytes B.returns B.notSynchronized hd3 hln3 hrt3 (fun t ht hw => ⟨rfl, by rw [ht]; exact hW3, hS3.F ht⟩) hS3.2.2
