/-- indexOf on the signs, as the real machine does it: the JDK's own methods by contract -/
def sx_ix (z : Int32) : Int32 := match am_ixl.findIdx? (fun q => q == z) with
  | some k => Int32.ofNat k
  | none => -1
theorem sx_none {z : Int32} (h : ∀ q, q ∈ am_ixl → q ≠ z) : sx_ix z = -1 := by
  unfold sx_ix
  rw [List.findIdx?_eq_none_iff.mpr (fun q hq => by simpa using h q hq)]
theorem sx_some {z : Int32} {i : Nat} (hi : i < 17) (h1 : ∀ j : Nat, j < i → am_ixl.getD j 0 ≠ z) (h2 : am_ixl.getD i 0 = z) : sx_ix z = Int32.ofNat i := by
  unfold sx_ix
  have hg : ∀ j : Nat, (hj : j < am_ixl.length) → am_ixl.getD j 0 = am_ixl[j] := fun j hj => by rw [List.getD_eq_getElem?_getD, List.getElem?_eq_getElem hj]; rfl
  have hl : i < am_ixl.length := hi
  have e : am_ixl.findIdx? (fun q => q == z) = some i := by
    rw [List.findIdx?_eq_some_iff_getElem]
    refine ⟨hl, ?_, fun j hj => ?_⟩
    · rw [← hg i hl, h2]
      exact beq_self_eq_true z
    · have hj2 : j < am_ixl.length := Nat.lt_trans hj hl
      have := h1 j hj
      rw [hg j hj2] at this
      simpa using this
  rw [e]
theorem sx_all {z : Int32} (h : ∀ j : Nat, j < 17 → am_ixl.getD j 0 ≠ z) : sx_ix z = -1 := sx_none (fun q hq => by
  obtain ⟨j, hj, e⟩ := List.getElem_of_mem hq
  have := h j hj
  rw [List.getD_eq_getElem?_getD, List.getElem?_eq_getElem hj] at this
  rw [← e]
  exact this)
theorem sx_rg : ∀ q, q ∈ am_ixl → ¬ q < 0 ∧ ¬ (255 : Int32) < q := by decide +kernel
theorem sx_by : ∀ k : Fin 256, sx_ix (Int32.ofNat k.val).toInt8.toInt32 = sx_ix (Int32.ofNat k.val) := by decide +kernel
theorem sx_by2 {z : Int32} (h0 : ¬ z < 0) (h1 : ¬ (255 : Int32) < z) : sx_ix z.toInt8.toInt32 = sx_ix z := by
  have z0 : (0 : Int) ≤ z.toInt := by simpa using Int32.le_iff_toInt_le.mp (Int32.not_lt.mp h0)
  have z1 : z.toInt ≤ 255 := by simpa using Int32.le_iff_toInt_le.mp (Int32.not_lt.mp h1)
  have e : z = Int32.ofNat z.toInt.toNat := by
    apply Int32.toInt_inj.mp
    rw [Int32.toInt_ofNat_of_lt (by omega)]
    omega
  have := sx_by ⟨z.toInt.toNat, by omega⟩
  rw [← e] at this
  exact this
theorem sx_out {z : Int32} (h : z < 0 ∨ (255 : Int32) < z) : sx_ix z = -1 := sx_none (fun q hq e => by
  subst e
  rcases h with h | h
  · exact (sx_rg q hq).1 h
  · exact (sx_rg q hq).2 h)
/-- what the JDK's methods need of a state -/
def sx_P (N a b : Nat) (U : State) : Prop := vk_S 1 [17] [am_ixl] (fun _ => a) (fun _ => b) (fun q => N ≤ q) U U.heap ∧ va_Z "java/lang/String" "COMPACT_STRINGS" "Z" (.int 1) (fun q => N ≤ q) U U.heap
theorem sx_blind {N a b : Nat} {as : List Value} : FrameBlind (va_Pc as (sx_P N a b)) := by
  intro x U f mk q
  obtain ⟨q0, q1, q2⟩ := q
  exact ⟨q0, vk_S.moved (u := U) (U := U.calling f mk x) (Vm.Alike.refl U.vm) q1, va_Z.moved (u := U) (U := U.calling f mk x) (Vm.Alike.refl U.vm) q2⟩
theorem sx_pre {N a b : Nat} {s U : State} {H : Heap} {locs : List Loc} (h : sx_P N a b s) (hS : va_S (fun q => N ≤ q) s.heap H locs) (hU : U.heap = H) (hw : s.WarmedH U.vm) : sx_P N a b U := by
  refine ⟨?_, ?_⟩
  · rw [hU]; exact vk_S.moved hw.alike (h.1.kept (fun a h3 h4 => hS.2.1 a h3 h4))
  · rw [hU]; exact va_Z.moved hw.alike (h.2.kept (fun a h3 h4 => hS.2.1 a h3 h4))
abbrev sx_Rm (f w : Nat) : Room := { frames := f, cells := 0, slots := 0, locals := w }
/-- a contract of theirs: an int comes back, nothing is written -/
def sx_M (l : Launch) (Ts : List Cond) (N a b : Nat) (y : MethodName) (cc : ByteArray) (n : Nat) (ty : FieldType) (f w : Nat) (as : List Value) (v : Int32) : Prop := Met l y (Cond.code y cc n (some ty) :: Ts) (sx_Rm f w) (va_Pc as (sx_P N a b)) (fun _ st o t => o = .returned (some (.int v)) ∧ t.heap = st.heap) 0 0 (fun _ => False)
section SX
variable {l : Launch} {Ts : List Cond} {N a b : Nat}
theorem sx_met {y : MethodName} {cc : ByteArray} {n : Nat} {ty : FieldType} {f w : Nat} {as : List Value} {v : Int32} (hpl : plainFor y = true) (hct : am_ct as ≤ n) (hn : narrow ty (.int v) = .int v)
    (body : ∀ (p : Program) (e : Env) (s : State) (m : MethodId) (args : Array Value) (below : List Frame) (meth : Method) (c : Code) (ls : Array Slot) (Q : State → Prop), p.tables.exec = Jvm.exec → c.code = cc → c.maxLocals = n → s.vm.findClass y.cls = some m.cls → (∀ w ∈ Ts, w.before args s = true) → sx_P N a b s → lv_has ls n (lv_args 0 as) → (∀ (pc3 : Nat) (ls3 : Array Slot), decode cc pc3 = .ok (.ireturn, 1) → W p l e (sx_Rm f w) s m args below meth c s.heap [] 0 0 Q (F0 m pc3 ls3 [.int v])) → W p l e (sx_Rm f w) s m args below meth c s.heap [] 0 0 Q (F0 m 0 ls [])) : sx_M l Ts N a b y cc n ty f w as v := by
  refine va_MetF (cc := cc) (maxL := n) (ret := some ty) hpl rfl ?_
  intro p e s m args below meth c s₁ B hml hv
  obtain ⟨rfl, hP⟩ := hv
  have hts := atoms_spec (ws := Cond.code y cc n (some ty) :: Ts) B.pre
  have hl := lv_entry as (n := n) (by rw [am_sl_len]; exact hct)
  rw [lg_entry_eq]
  generalize (lg_sl as ++ List.replicate (n - (lg_sl as).length) Slot.unset).toArray = ls at hl ⊢
  have hx := B.exec
  have hb := B.bytes
  have hr := B.returns
  have hk := B.notSynchronized
  refine body p e s m as.toArray below meth c ls _ hx hb hml (findClass_of_methodNamed B.named) (fun w hw => hts w (List.mem_cons_of_mem _ hw)) hP hl (fun pc3 ls3 hd => ?_)
  exact W.zret hx hb hr hn (fun t ht _ => ⟨rfl, ht⟩) (fun q hq => by cases hq) hd hk
section SXC
variable {p : Program} {e : Env} {R : Room} {s : State} {m : MethodId} {args : Array Value} {below : List Frame} {meth : Method} {c : Code} {H : Heap} {locs : List Loc} {cells slots : Nat} {Q : State → Prop} {cc : ByteArray} {nL pc : Nat} {ls : Array Slot} {own : String} {index : Nat} {rest st0 : List Value} {y : MethodName} {bytes : ByteArray} {n k : Nat} {ty : FieldType} {f w : Nat} {as : List Value} {v : Int32}
theorem sx_run {Qa : State → Outcome → State → Prop} (hr : va_Run p l e R s m args below meth c H locs cells slots 0 0 (F0 m pc ls st0) rest Qa (fun _ => False)) (hQ : ∀ (st₀ : State) (o : Outcome) (t : State), Qa st₀ o t → o = .returned (some (.int v)) ∧ t.heap = st₀.heap)
    (kk : W p l e R s m args below meth c H locs cells slots Q (F0 m (pc + 3) ls (.int v :: rest))) : W p l e R s m args below meth c H locs cells slots Q (F0 m pc ls st0) := by
  intro T hT X
  obtain ⟨v', st₀, t, T', L, h0, X', hL, e1, e2, hq, st⟩ := hr T hT X
  obtain ⟨ho, hh⟩ := hQ _ _ _ hq
  cases ho
  have hL0 : L = [] := by
    cases L with
    | nil => rfl
    | cons q L => exact (hL q List.mem_cons_self).elim
  subst hL0
  rw [List.append_nil] at X'
  obtain ⟨t2, a1, b1⟩ := kk T' (by rw [e1, hh, h0]) X'
  exact ⟨t2, st t2 a1, b1⟩
theorem sx_callS (hx : p.tables.exec = Jvm.exec) (hb : c.code = cc) (hml : c.maxLocals = nL) (hown : s.vm.findClass own = some m.cls) (hts : ∀ w ∈ Ts, w.before args s = true) (hgd : am_gd Ts) (hM : sx_M l Ts N a b y bytes n ty f w as v) (hc : Cond.code y bytes n (some ty) ∈ Ts) (hi : Cond.initialized y.cls ∈ Ts) (hk : Cond.methodLink own index y ∈ Ts) (hst : Cond.static y ∈ Ts) (hd : y.cls ≠ "java/lang/invoke/MethodHandle" ∧ y.cls ≠ "java/lang/invoke/VarHandle" ∧ (parseMethodDescriptor y.desc).map (fun d => d.parameters.length) = some k) (hR : f + 1 ≤ R.frames ∧ 8 + (n + 11) + w ≤ R.locals) (hP : sx_P N a b s) (hS : va_S (fun q => N ≤ q) s.heap H locs) (hlen : as.length = k) (hls : ls.size = nL) (hst0 : st0 = as.reverse ++ rest) (hcat : (rest.map fun v => v.category).sum ≤ 8) (hdg : decode cc pc = .ok (.invokestatic index, 3)) (hcs : cells ≤ R.cells ∧ slots ≤ R.slots)
    (K : W p l e R s m args below meth c H locs cells slots Q (F0 m (pc + 3) ls (.int v :: rest))) : W p l e R s m args below meth c H locs cells slots Q (F0 m pc ls st0) := by
  refine sx_run (rest := rest) (va_runS (As := as) (rest := rest) (n := k) ⟨hx, hb, hml, hown, hts⟩ hM ⟨callB_of k hts (am_good hgd hc) rfl rfl rfl (hts _ hi) (hts _ hk) hd hR, hts _ hst⟩ ⟨sx_blind, fun U hU hwU => ⟨rfl, sx_pre hP hS hU hwU⟩⟩ rfl hlen hls hst0 ?_ hdg ⟨by omega, by omega⟩) (fun st₀ o t hq => hq) K
  have h3 : 2 * (F0 m pc ls st0).monitorRoom = 0 := rfl
  omega
theorem sx_callV (hx : p.tables.exec = Jvm.exec) (hb : c.code = cc) (hml : c.maxLocals = nL) (hown : s.vm.findClass own = some m.cls) (hts : ∀ w ∈ Ts, w.before args s = true) (hgd : am_gd Ts) (hM : sx_M l Ts N a b y bytes n ty f w (.ref a :: as) v) (hy : y.cls = "java/lang/String") (hc : Cond.code y bytes n (some ty) ∈ Ts) (hi : Cond.initialized y.cls ∈ Ts) (hk : Cond.methodLink own index y ∈ Ts) (hin : Cond.instanceMethod y ∈ Ts) (hse : Cond.selects y.cls y y ∈ Ts) (hd : y.cls ≠ "java/lang/invoke/MethodHandle" ∧ y.cls ≠ "java/lang/invoke/VarHandle" ∧ (parseMethodDescriptor y.desc).map (fun d => d.parameters.length) = some k) (hR : f + 1 ≤ R.frames ∧ 8 + (n + 11) + w ≤ R.locals) (hP : sx_P N a b s) (hS : va_S (fun q => N ≤ q) s.heap H locs) (hlen : as.length = k) (hls : ls.size = nL) (hst0 : st0 = as.reverse ++ .ref a :: rest) (hcat : (rest.map fun v => v.category).sum ≤ 8) (hdg : decode cc pc = .ok (.invokevirtual index, 3)) (hcs : cells ≤ R.cells ∧ slots ≤ R.slots)
    (K : W p l e R s m args below meth c H locs cells slots Q (F0 m (pc + 3) ls (.int v :: rest))) : W p l e R s m args below meth c H locs cells slots Q (F0 m pc ls st0) := by
  refine sx_run (rest := rest) (va_runV (C := y.cls) (b := a) (As := as) (rest := rest) (n := k) ⟨hx, hb, hml, hown, hts⟩ hM ⟨callB_of k hts (am_good hgd hc) rfl rfl rfl (hts _ hi) (hts _ hk) hd hR, hts _ hin, hts _ hse⟩ ⟨sx_blind, ?_, fun U hU hwU => ⟨rfl, sx_pre hP hS hU hwU⟩⟩ rfl hlen hls hst0 ?_ hdg ⟨by omega, by omega⟩) (fun st₀ o t hq => hq) K
  · rw [hy]
    exact vk_recv (i := 0) hP.1 (by decide) hS
  · have h3 : 2 * (F0 m pc ls st0).monitorRoom = 0 := rfl
    omega
end SXC
end SX
