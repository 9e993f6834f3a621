abbrev am_E : Type := (Nat × vp_A) ⊕ (Nat × List Value)
abbrev am_M : Type := MethodName × ByteArray × Nat × Option FieldType × Nat
abbrev am_T : Type := (Nat → Option am_M) × (Nat → Nat → Option (Instr × Nat)) × (Nat → Nat → Option (Nat × Nat × FieldType × Nat)) × (Nat → Nat → Option (Nat × Nat × Nat)) × (Nat → Nat → Option (Nat × Nat)) × (Nat → Nat → Option Value) × List FieldType × List vw_C × (Nat → List Value) × List (String × String × String × Nat)
abbrev am_mt (T : am_T) := T.1
abbrev am_in (T : am_T) := T.2.1
abbrev am_fl (T : am_T) := T.2.2.1
abbrev am_ml (T : am_T) := T.2.2.2.1
abbrev am_kl (T : am_T) := T.2.2.2.2.1
abbrev am_cs (T : am_T) := T.2.2.2.2.2.1
abbrev am_ty (T : am_T) := T.2.2.2.2.2.2.1
abbrev am_cl (T : am_T) := T.2.2.2.2.2.2.2.1
abbrev am_df (T : am_T) := T.2.2.2.2.2.2.2.2.1
abbrev am_sx (T : am_T) := T.2.2.2.2.2.2.2.2.2
def am_lx (g : Nat → Nat) (x : (Nat → Int32) ⊕ (Nat → Int64) ⊕ (Nat → UInt32) ⊕ (Nat → UInt64) ⊕ (Nat → Option Nat)) : (Nat → Int32) ⊕ (Nat → Int64) ⊕ (Nat → UInt32) ⊕ (Nat → UInt64) ⊕ (Nat → Option Nat) := match x with
  | .inl f => .inl f
  | .inr (.inl f) => .inr (.inl f)
  | .inr (.inr (.inl f)) => .inr (.inr (.inl f))
  | .inr (.inr (.inr (.inl f))) => .inr (.inr (.inr (.inl f)))
  | .inr (.inr (.inr (.inr f))) => .inr (.inr (.inr (.inr (fun j => (f j).map g))))
def am_lo (g : Nat → Nat) (dT : Nat → ClassId) (c : am_E) : va_E := match c with
  | .inl (t, n, x) => .inl (dT t, n, am_lx g x)
  | .inr (ci, fs) => .inr (ci, fs.map (am_v g))
def am_ws (g : Nat → Nat) (dT : Nat → ClassId) (k : Nat) (h : List am_E) : va_W := h.mapIdx (fun i c => (g (k + i), am_lo g dT c))
theorem am_ws_at {g : Nat → Nat} {dT : Nat → ClassId} {k i : Nat} {h : List am_E} {c : am_E} (hi : h[i]? = some c) : (am_ws g dT k h)[i]? = some (g (k + i), am_lo g dT c) := by
  unfold am_ws
  rw [List.getElem?_mapIdx, hi]
  rfl
theorem am_ws_set (g : Nat → Nat) (dT : Nat → ClassId) (k i : Nat) (h : List am_E) (c : am_E) : am_ws g dT k (h.set i c) = (am_ws g dT k h).set i (g (k + i), am_lo g dT c) := by
  apply List.ext_getElem?
  intro j
  unfold am_ws
  rw [List.getElem?_mapIdx]
  by_cases hj : i = j
  · subst hj
    by_cases hl : i < h.length
    · rw [List.getElem?_set_self hl, List.getElem?_set_self (by simpa using hl)]
      rfl
    · rw [List.getElem?_eq_none (by simp; omega), List.getElem?_eq_none (by simp; omega)]
      rfl
  · rw [List.getElem?_set_ne hj, List.getElem?_set_ne hj, List.getElem?_mapIdx]
theorem am_ws_push (g : Nat → Nat) (dT : Nat → ClassId) (k : Nat) (h : List am_E) (c : am_E) : am_ws g dT k (h ++ [c]) = am_ws g dT k h ++ [(g (k + h.length), am_lo g dT c)] := by
  unfold am_ws
  rw [List.mapIdx_append]
  simp
def am_tl (T : am_T) (dT : Nat → ClassId) : List (ClassId × FieldType) := (am_ty T).mapIdx (fun t y => (dT t, y))
theorem am_tl_at {T : am_T} {dT : Nat → ClassId} {t : Nat} {y : FieldType} (h : (am_ty T)[t]? = some y) : (am_tl T dT)[t]? = some (dT t, y) := by
  unfold am_tl
  rw [List.getElem?_mapIdx, h]
  rfl
def am_G (g : Nat → Nat) (N k : Nat) : Prop := (∀ i, g (k + i) = N + i) ∧ (∀ x y, g x = g y → x = y)
def am_W (T : am_T) (D : va_G) (dT : Nat → ClassId) (g : Nat → Nat) (N k : Nat) (h : List am_E) (H : Heap) : Prop := H.size = N + h.length ∧ va_P D (am_cl T) (am_ws g dT k h) H
theorem am_D {g : Nat → Nat} {dT : Nat → ClassId} {N k : Nat} (hG : am_G g N k) (h : List am_E) : va_D (fun q => N ≤ q) (am_ws g dT k h) := by
  have key : ∀ (i : Nat) (q : Nat × va_E), (am_ws g dT k h)[i]? = some q → q.1 = g (k + i) := by
    intro i q hq
    unfold am_ws at hq
    rw [List.getElem?_mapIdx] at hq
    cases hc : h[i]? with
    | none => rw [hc] at hq; cases hq
    | some c => rw [hc] at hq; cases hq; rfl
  refine ⟨fun i j x y hi hj hxy => ?_, fun i q hq => ?_⟩
  · rw [key i x hi, key j y hj] at hxy
    have := hG.2 _ _ hxy
    omega
  · rw [key i q hq, hG.1]
    exact Nat.le_add_right N i
def am_vl (x : (Nat → Int32) ⊕ (Nat → Int64) ⊕ (Nat → UInt32) ⊕ (Nat → UInt64) ⊕ (Nat → Option Nat)) : Nat → Value := match x with
  | .inl f => fun j => .int (f j)
  | .inr (.inl f) => fun j => .long (f j)
  | _ => fun _ => .null
/-- the signs, and the place of a char among them -/
def am_ixl : List Int32 := [59, 44, 40, 41, 123, 125, 58, 124, 95, 60, 61, 62, 43, 45, 42, 47, 37]
def am_ix (x : Int32) : Int32 := match am_ixl.findIdx? (fun q => q == (x.toUInt32 % 65536).toInt32) with
  | some k => Int32.ofNat k
  | none => -1
/-- the String constant with the signs, and String's own switch -/
def am_ST (N : Nat) (U : State) : Prop := (∃ a b : Nat, vk_R "LetterPost$Tokens" 65 ";,(){}:|_<=>+-*/%" a U ∧ vk_S 1 [17] [am_ixl] (fun _ => a) (fun _ => b) (fun q => N ≤ q) U U.heap) ∧ va_Z "java/lang/String" "COMPACT_STRINGS" "Z" (.int 1) (fun q => N ≤ q) U U.heap
def am_RO (T : am_T) (g : Nat → Nat) (N : Nat) (ro : List am_E) (U : State) : Prop := (∀ (i t n : Nat) (x : (Nat → Int32) ⊕ (Nat → Int64) ⊕ (Nat → UInt32) ⊕ (Nat → UInt64) ⊕ (Nat → Option Nat)) (y : FieldType), ro[i]? = some (.inl (t, n, x)) → (am_ty T)[t]? = some y → va_T y (g i) n (am_vl x) (fun q => N ≤ q) U U.heap) ∧ (∀ q ∈ am_sx T, va_Z q.1 q.2.1 q.2.2.1 (.ref (g q.2.2.2)) (fun q => N ≤ q) U U.heap) ∧ am_ST N U
def am_okF (T : am_T) (Ts : List Cond) : Prop := ∀ (m idx ci kf : Nat) (ty : FieldType) (md : Nat) (M : am_M), am_fl T m idx = some (ci, kf, ty, md) → am_mt T m = some M → ∃ (C : String) (TT : u_T) (N : Nat), (am_cl T)[ci]? = some (C, TT, N) ∧ kf < N ∧ Cond.fieldLink M.1.cls idx (TT kf).1 (TT kf).2.1 (TT kf).2.2.1 ∈ Ts ∧ parseFieldDescriptor (TT kf).2.2.1 = some ty ∧ (md = 0 → (TT kf).2.2.2 = false) ∧ (md = 2 → (TT kf).2.2.2 = true ∧ (TT kf).1 = M.1.cls ∧ M.1.name = "<init>")
def am_okC (T : am_T) (Ts : List Cond) : Prop := ∀ (ci : Nat) (C : String) (TT : u_T) (N : Nat), (am_cl T)[ci]? = some (C, TT, N) → (∀ w ∈ u_ws C TT N, w ∈ Ts) ∧ (∃ ty0 : Nat → FieldType, (∀ k, k < N → parseFieldDescriptor (TT k).2.2.1 = some (ty0 k)) ∧ ∀ j, j < N → defaultValue (ty0 j) = vp_V (am_df T ci) j ∧ ∃ z, (am_df T ci)[j]? = some z ∧ ∀ g, am_v g z = z) ∧ (am_df T ci).length = N ∧ (∀ a, a < N → ∀ b, b < N → a ≠ b → (TT a).2.1 ≠ (TT b).2.1) ∧ Cond.instantiable C N ∈ Ts ∧ Cond.initialized C ∈ Ts
def am_okK (T : am_T) (Ts : List Cond) : Prop := ∀ (m idx ci t : Nat) (M : am_M), am_kl T m idx = some (ci, t) → am_mt T m = some M → (∀ (C : String) (TT : u_T) (N : Nat), (am_cl T)[ci]? = some (C, TT, N) → Cond.classLink M.1.cls idx C ∈ Ts) ∧ ∀ C : String, (am_ty T)[t]? = some (.object C) → Cond.classLink M.1.cls idx C ∈ Ts
def am_okS (T : am_T) (Ts : List Cond) : Prop := ∀ (m idx : Nat) (v : Value) (M : am_M), am_cs T m idx = some v → am_mt T m = some M → (∀ x, v = .int x → Cond.constant M.1.cls idx x ∈ Ts) ∧ (∀ x, v = .long x → Cond.constantLong M.1.cls idx x ∈ Ts) ∧ ∀ a, v = .ref a → ∃ q ∈ am_sx T, q.2.2.2 = a ∧ Cond.fieldLink M.1.cls idx q.1 q.2.1 q.2.2.1 ∈ Ts
def am_okT (T : am_T) (Ts : List Cond) : Prop := ((am_ty T)[0]? = some .int ∧ Cond.arrayClass .int ∈ Ts) ∧ ((am_ty T)[1]? = some .long ∧ Cond.arrayClass .long ∈ Ts) ∧ ((am_ty T)[2]? = some .byte ∧ Cond.arrayClass .byte ∈ Ts) ∧ ((am_ty T)[3]? = some .boolean ∧ Cond.arrayClass .boolean ∈ Ts)
def am_K (T : am_T) (D : va_G) (dT : Nat → ClassId) (s : State) : Prop := va_K D (am_cl T) (am_tl T dT) s ∧ ∀ (t : Nat) (C : String), (am_ty T)[t]? = some (.object C) → va_AO C s
def am_fit (ty : FieldType) (v : Value) : Bool := match ty, v with
  | .int, .int _ => true
  | .long, .long _ => true
  | .boolean, .int x => x == 0 || x == 1
  | .object _, .null => true
  | .object _, .ref _ => true
  | .array _, .null => true
  | .array _, .ref _ => true
  | _, _ => false
theorem am_fit_ok {ty : FieldType} {v : Value} (g : Nat → Nat) (h : am_fit ty v = true) : narrow ty (am_v g v) = am_v g v ∧ fits ty (am_v g v) = true := by
  unfold am_fit at h
  split at h
  · exact ⟨rfl, rfl⟩
  · exact ⟨rfl, rfl⟩
  · rename_i x
    have h1 : x = 0 ∨ x = 1 := by simpa using h
    rcases h1 with rfl | rfl
    · exact ⟨by show narrow .boolean (.int 0) = .int 0; decide, by show fits .boolean (.int 0) = true; decide⟩
    · exact ⟨by show narrow .boolean (.int 1) = .int 1; decide, by show fits .boolean (.int 1) = true; decide⟩
  · exact ⟨rfl, rfl⟩
  · exact ⟨rfl, rfl⟩
  · exact ⟨rfl, rfl⟩
  · exact ⟨rfl, rfl⟩
  · cases h
/-- the cell at an address: those ahead of k are only read -/
def am_at (ro h : List am_E) (a : Nat) : Option am_E := if a < ro.length then ro[a]? else h[a - ro.length]?
def am_dy (ro h : List am_E) (a : Nat) : Option am_E := if a < ro.length then none else h[a - ro.length]?
def am_up (ro h : List am_E) (a : Nat) (c : am_E) : List am_E := h.set (a - ro.length) c
theorem am_dy_ok {ro h : List am_E} {a : Nat} {c : am_E} (hd : am_dy ro h a = some c) : ∃ i, a = ro.length + i ∧ h[i]? = some c := by
  unfold am_dy at hd
  split at hd
  · cases hd
  · exact ⟨a - ro.length, by omega, hd⟩
theorem am_at_ok {ro h : List am_E} {a : Nat} {c : am_E} (hd : am_at ro h a = some c) : ro[a]? = some c ∨ ∃ i, a = ro.length + i ∧ h[i]? = some c := by
  unfold am_at at hd
  split at hd
  · exact Or.inl hd
  · exact Or.inr ⟨a - ro.length, by omega, hd⟩
theorem am_up_at (ro h : List am_E) (i : Nat) (c : am_E) : am_up ro h (ro.length + i) c = h.set i c := by
  unfold am_up
  rw [Nat.add_sub_cancel_left]
def am_ok (T : am_T) (Ts : List Cond) : Prop := am_okF T Ts ∧ am_okC T Ts ∧ am_okK T Ts ∧ am_okS T Ts ∧ am_okT T Ts
/-- what stays the same in a method's body -/
def am_C (p : Program) (s : State) (m : MethodId) (args : Array Value) (meth : Method) (c : Code) (T : am_T) (Ts : List Cond) (D : va_G) (dT : Nat → ClassId) (g : Nat → Nat) (N : Nat) (ro : List am_E) (mm : Nat) (M : am_M) : Prop := p.tables.exec = Jvm.exec ∧ c.code = M.2.1 ∧ c.maxLocals = M.2.2.1 ∧ s.vm.findClass M.1.cls = some m.cls ∧ (∀ w ∈ Ts, w.before args s = true) ∧ (M.1.name = "<init>" → meth.name = "<init>") ∧ am_mt T mm = some M ∧ am_K T D dT s ∧ am_RO T g N ro s ∧ N ≤ s.heap.size ∧ am_G g N ro.length ∧ am_ok T Ts
