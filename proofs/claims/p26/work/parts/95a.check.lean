abbrev tb_Ts : List Cond := lw_tbl.filter goodWord
def am_has (Tb : List Cond) (i : Nat) (w : Cond) : Bool := goodWord w && (match Tb[i]? with
  | some v => decide (v = w)
  | none => false)
theorem am_has_ok {Tb : List Cond} {i : Nat} {w : Cond} (h : am_has Tb i w = true) : w ∈ Tb.filter goodWord := by
  unfold am_has at h
  rw [Bool.and_eq_true] at h
  obtain ⟨h1, h2⟩ := h
  split at h2
  · rename_i v hv
    have e : v = w := of_decide_eq_true h2
    subst e
    exact List.mem_filter.mpr ⟨List.mem_of_getElem? hv, h1⟩
  · cases h2
theorem tb_all {α : Type} {P : α → Nat → Bool} {l : List α} (h : (l.zipIdx).all (fun q => P q.1 q.2) = true) {i : Nat} {x : α} (hx : l[i]? = some x) : P x i = true := by
  have h1 := List.all_eq_true.mp h
  refine h1 (x, i) ?_
  rw [List.mem_iff_getElem?]
  exact ⟨i, by rw [List.getElem?_zipIdx, hx]; simp⟩
theorem tb_jn_ok {α : Type} {x : Option (Option α)} {a : α} (h : tb_jn x = some a) : x = some (some a) := by
  unfold tb_jn at h
  split at h
  · cases h; rfl
  · cases h
theorem tb_lk_ok {α : Type} {L : List (List (Option α))} {c i : Nat} {a : α} (h : tb_lk L c i = some a) : ∃ l, L[c]? = some l ∧ l[i]? = some (some a) := by
  unfold tb_lk at h
  split at h
  · rename_i l hl
    exact ⟨l, hl, tb_jn_ok h⟩
  · cases h
theorem am_gd_Ts : am_gd tb_Ts := fun _ hw => good_of_word (List.mem_filter.mp hw).2
def tb_qI (b : ByteArray) (o : Option (Instr × Nat)) (pc : Nat) : Bool := match o with
  | none => true
  | some (i, len) => decide (decode b pc = .ok (i, len)) && (am_ln i == 0 || am_ln i == len)
def tb_ckP (b : ByteArray) (l : List (Option (Instr × Nat))) (k : Nat) : Bool := ((l.zipIdx.drop k).take 40).all (fun q => tb_qI b q.1 q.2)
def tb_ckI (b : ByteArray) (l : List (Option (Instr × Nat))) : Prop := ∀ j, tb_ckP b l (40 * j) = true
theorem tb_ckP_ge {b : ByteArray} {l : List (Option (Instr × Nat))} {k : Nat} (h : l.length ≤ k) : tb_ckP b l k = true := by
  unfold tb_ckP
  rw [List.drop_eq_nil_of_le (by simpa using h)]
  rfl
theorem tb_ckI_ok {b : ByteArray} {l : List (Option (Instr × Nat))} (h : tb_ckI b l) {pc : Nat} {i : Instr} {len : Nat} (hp : l[pc]? = some (some (i, len))) : decode b pc = .ok (i, len) ∧ (am_ln i = 0 ∨ am_ln i = len) := by
  have h0 := h (pc / 40)
  unfold tb_ckP at h0
  have hm : (some (i, len), pc) ∈ (l.zipIdx.drop (40 * (pc / 40))).take 40 := by
    rw [List.mem_iff_getElem?]
    refine ⟨pc % 40, ?_⟩
    rw [List.getElem?_take_of_lt (Nat.mod_lt _ (by decide)), List.getElem?_drop, Nat.div_add_mod, List.getElem?_zipIdx, hp]
    simp
  have h1 := List.all_eq_true.mp h0 _ hm
  simp only [tb_qI, Bool.and_eq_true, decide_eq_true_eq, Bool.or_eq_true, beq_iff_eq] at h1
  exact h1
def tb_qB {α : Type} (P : α → Nat → Bool) (o : Option α) (i : Nat) : Bool := match o with
  | none => true
  | some a => P a i
def tb_bl {α : Type} (P : α → Nat → Bool) (l : List (Option α)) : Bool := (l.zipIdx).all (fun q => tb_qB P q.1 q.2)
theorem tb_bl_ok {α : Type} {P : α → Nat → Bool} {l : List (Option α)} (h : tb_bl P l = true) {i : Nat} {a : α} (hp : l[i]? = some (some a)) : P a i = true := by
  have h1 := tb_all (P := tb_qB P) (l := l) h hp
  exact h1
def tb_pF (c : Nat) (q : Nat × Nat × FieldType × Nat) (idx : Nat) : Bool := match tb_cl[q.1]?, tb_own[c]?, tb_lk tb_Fp c idx with
  | some (_, TT, N), some o, some p => Nat.blt q.2.1 N && am_has lw_tbl p (.fieldLink o idx (TT q.2.1).1 (TT q.2.1).2.1 (TT q.2.1).2.2.1) && decide (parseFieldDescriptor (TT q.2.1).2.2.1 = some q.2.2.1) && (if q.2.2.2 = 0 then (TT q.2.1).2.2.2 == false else true) && (if q.2.2.2 = 3 then (TT q.2.1).2.2.2 == true && decide ((TT q.2.1).1 = o) else true) && !(q.2.2.2 == 2)
  | _, _, _ => false
def tb_ckF (c : Nat) : Bool := match tb_F[c]? with
  | some l => tb_bl (tb_pF c) l
  | none => true
def tb_qM (M : am_M) (m : Nat) : Bool := match tb_own[(tb_c m).1]? with
  | some o => decide (M.1.cls = o) && (if (tb_c m).2 = true then decide (M.1.name = "<init>") else true)
  | none => false
def tb_ckB (l : List am_M) : Bool := (l.zipIdx).all (fun q => tb_qM q.1 q.2)
theorem tb_B : tb_ckB tb_ms = true := by decide +kernel
theorem tb_B_ok {m : Nat} {M : am_M} (hM : tb_ms[m]? = some M) : tb_own[(tb_c m).1]? = some M.1.cls ∧ ((tb_c m).2 = true → M.1.name = "<init>") := by
  have hB := tb_B
  generalize tb_ms = l at hB hM
  have h := tb_all (P := tb_qM) (l := l) hB hM
  unfold tb_qM at h
  split at h
  · rename_i o ho
    rw [Bool.and_eq_true] at h
    have e : M.1.cls = o := of_decide_eq_true h.1
    refine ⟨by rw [ho, e], fun hc => ?_⟩
    have h2 := h.2
    rw [if_pos hc] at h2
    exact of_decide_eq_true h2
  · cases h
theorem tb_ckF_ok {c : Nat} (hc : tb_ckF c = true) {idx ci kf md : Nat} {ty : FieldType} (h : tb_lk tb_F c idx = some (ci, kf, ty, md)) {o : String} (ho : tb_own[c]? = some o) : ∃ (C : String) (TT : u_T) (N : Nat), tb_cl[ci]? = some (C, TT, N) ∧ kf < N ∧ Cond.fieldLink o idx (TT kf).1 (TT kf).2.1 (TT kf).2.2.1 ∈ tb_Ts ∧ parseFieldDescriptor (TT kf).2.2.1 = some ty ∧ (md = 0 → (TT kf).2.2.2 = false) ∧ (md = 3 → (TT kf).2.2.2 = true ∧ (TT kf).1 = o) ∧ md ≠ 2 := by
  obtain ⟨l, hl, hi⟩ := tb_lk_ok h
  unfold tb_ckF at hc
  rw [hl] at hc
  have h1 := tb_bl_ok hc hi
  unfold tb_pF at h1
  split at h1
  · rename_i C TT N o2 p hcl ho2 hp
    have e : o2 = o := Option.some.inj (ho2.symm.trans ho)
    subst e
    simp only [Bool.and_eq_true, decide_eq_true_eq, Bool.not_eq_true', beq_eq_false_iff_ne, ne_eq] at h1
    obtain ⟨⟨⟨⟨⟨a1, a2⟩, a3⟩, a4⟩, a5⟩, a6⟩ := h1
    refine ⟨C, TT, N, hcl, Nat.blt_eq.mp a1, am_has_ok a2, a3, fun hm => ?_, fun hm => ?_, a6⟩
    · rw [if_pos hm] at a4
      simpa using a4
    · rw [if_pos hm] at a5
      simpa using a5
  · cases h1
def tb_pK (c : Nat) (q : Nat × Nat) (idx : Nat) : Bool := match tb_own[c]?, tb_lk tb_Kp c idx with
  | some o, some p => (match tb_cl[q.1]? with
    | some (C, _, _) => am_has lw_tbl p (.classLink o idx C)
    | none => true) && (match tb_ty[q.2]? with
    | some (.object C) => am_has lw_tbl p (.classLink o idx C)
    | _ => true)
  | _, _ => false
def tb_ckK (c : Nat) : Bool := match tb_K[c]? with
  | some l => tb_bl (tb_pK c) l
  | none => true
def tb_pS (c : Nat) (v : Value) (idx : Nat) : Bool := match tb_own[c]?, tb_lk tb_Sp c idx with
  | some o, some p => (match v with
    | .int x => am_has lw_tbl p (.constant o idx x)
    | .long x => am_has lw_tbl p (.constantLong o idx x)
    | .ref a => tb_sx.any (fun q => decide (q.2.2.2 = a) && am_has lw_tbl p (.fieldLink o idx q.1 q.2.1 q.2.2.1))
    | _ => true)
  | _, _ => false
def tb_ckS (c : Nat) : Bool := match tb_S[c]? with
  | some l => tb_bl (tb_pS c) l
  | none => true
def tb_pG (c : Nat) (q : Nat × Nat × Nat) (idx : Nat) : Bool := match tb_own[c]?, tb_lk tb_Gp c idx with
  | some o, some ps => (if q.2.1 = 4 then am_has lw_tbl (ps.getD 0 0) (.methodLink o idx objectInit) && am_has lw_tbl (ps.getD 1 0) (.instanceMethod objectInit) else if q.2.1 = 6 then true else if q.2.1 = 5 then am_has lw_tbl (ps.getD 0 0) (.methodLink o idx arraycopyName) && am_has lw_tbl (ps.getD 1 0) (.native arraycopyName) && am_has lw_tbl (ps.getD 2 0) (.static arraycopyName) && am_has lw_tbl (ps.getD 3 0) (.initialized "java/lang/System") else (match tb_ms[q.1]? with
    | some M => Nat.blt 0 q.1 && plainFor M.1 && decide (M.1.cls ≠ "java/lang/invoke/MethodHandle") && decide (M.1.cls ≠ "java/lang/invoke/VarHandle") && decide ((parseMethodDescriptor M.1.desc).map (fun d => d.parameters.length) = some M.2.2.2.2) && am_has lw_tbl (ps.getD 1 0) (.initialized M.1.cls) && (if q.2.1 = 3 then true else am_has lw_tbl (ps.getD 2 0) (.methodLink o idx M.1)) && (if q.2.1 = 0 then am_has lw_tbl (ps.getD 3 0) (.static M.1) else am_has lw_tbl (ps.getD 3 0) (.instanceMethod M.1)) && (if q.2.1 = 1 then am_has lw_tbl (ps.getD 4 0) (.selects M.1.cls M.1 M.1) && (match tb_cl[q.2.2]? with
        | some (C, _, _) => decide (C = M.1.cls)
        | none => false) else true) && (if q.2.1 = 2 ∨ q.2.1 = 3 then decide (M.1.name = "<init>") && decide (M.2.2.2.1 = none) else true) && (if q.2.1 = 3 then tb_nest.any (fun w => decide (w = .methodLinkNest o idx M.1 "LetterPost")) else true)
    | none => false))
  | _, _ => false
def tb_ckG (c : Nat) : Bool := match tb_G[c]? with
  | some l => tb_bl (tb_pG c) l
  | none => true
def tb_pC (C : String) (TT : u_T) (N : Nat) (df : List Value) (ty : List FieldType) (lp : List Nat) (ip np : Nat) : Bool := (List.range N).all (fun k => am_has lw_tbl (lp.getD k 0) (u_lay C TT k) && (match ty[k]? with
    | some t => decide (parseFieldDescriptor (TT k).2.2.1 = some t) && decide (df[k]? = some (defaultValue t))
    | none => false)) && decide (df.length = N) && decide (((List.range N).map (fun k => (TT k).2.1)).Nodup) && am_has lw_tbl ip (.instantiable C N) && am_has lw_tbl np (.initialized C)
