abbrev am_Y : Type := List Value × List am_E
def am_iin (i : Int32) (n : Nat) : Bool := !(decide (i < 0)) && decide (i.toNatClampNeg < n)
theorem am_iin_ok {i : Int32} {n : Nat} (h : am_iin i n = true) : vp_in i n := by
  unfold am_iin at h
  simp only [Bool.and_eq_true, Bool.not_eq_true', decide_eq_false_iff_not, decide_eq_true_eq] at h
  exact fun q => q.elim (fun z => h.1 z) (fun z => absurd h.2 (by omega))
def am_gf (T : am_T) (ro : List am_E) (m idx : Nat) (st : List Value) (h : List am_E) : Option am_Y := match st with
  | .ref a :: r => match am_fl T m idx with
    | some (ci, kf, _, _) => match am_dy ro h a with
      | some (.inr (cj, fs)) => if cj = ci then (match fs[kf]? with | some v => some (v :: r, h) | none => none) else none
      | _ => none
    | none => none
  | _ => none
def am_pf (T : am_T) (ro : List am_E) (m idx : Nat) (st : List Value) (h : List am_E) : Option am_Y := match st with
  | v :: .ref a :: r => match am_fl T m idx with
    | some (ci, kf, ty, md) => match am_dy ro h a with
      | some (.inr (cj, fs)) => if cj = ci ∧ kf < fs.length ∧ am_fit ty v = true ∧ (md = 0 ∨ md = 2) then some (r, am_up ro h a (.inr (cj, fs.set kf v))) else none
      | _ => none
    | none => none
  | _ => none
def am_ial (ro : List am_E) (st : List Value) (h : List am_E) : Option am_Y := match st with
  | .int i :: .ref a :: r => match am_at ro h a with
    | some (.inl (t, n, .inl f)) => if t = 0 ∧ am_iin i n = true then some (.int (f i.toNatClampNeg) :: r, h) else none
    | _ => none
  | _ => none
def am_lal (ro : List am_E) (st : List Value) (h : List am_E) : Option am_Y := match st with
  | .int i :: .ref a :: r => match am_at ro h a with
    | some (.inl (t, n, .inr (.inl f))) => if t = 1 ∧ am_iin i n = true then some (.long (f i.toNatClampNeg) :: r, h) else none
    | _ => none
  | _ => none
def am_bal (ro : List am_E) (st : List Value) (h : List am_E) : Option am_Y := match st with
  | .int i :: .ref a :: r => match am_dy ro h a with
    | some (.inl (t, n, .inl f)) => if (t = 2 ∨ t = 3) ∧ am_iin i n = true then some (.int (f i.toNatClampNeg) :: r, h) else none
    | _ => none
  | _ => none
def am_aal (T : am_T) (ro : List am_E) (st : List Value) (h : List am_E) : Option am_Y := match st with
  | .int i :: .ref a :: r => match am_dy ro h a with
    | some (.inl (t, n, .inr (.inr (.inr (.inr f))))) => match (am_ty T)[t]? with
      | some (.object _) => if am_iin i n = true then some (va_rf (f i.toNatClampNeg) :: r, h) else none
      | _ => none
    | _ => none
  | _ => none
def am_ias (ro : List am_E) (st : List Value) (h : List am_E) : Option am_Y := match st with
  | .int x :: .int i :: .ref a :: r => match am_dy ro h a with
    | some (.inl (t, n, .inl f)) => if t = 0 ∧ am_iin i n = true then some (r, am_up ro h a (.inl (t, n, .inl (upd f i.toNatClampNeg x)))) else none
    | _ => none
  | _ => none
def am_las (ro : List am_E) (st : List Value) (h : List am_E) : Option am_Y := match st with
  | .long x :: .int i :: .ref a :: r => match am_dy ro h a with
    | some (.inl (t, n, .inr (.inl f))) => if t = 1 ∧ am_iin i n = true then some (r, am_up ro h a (.inl (t, n, .inr (.inl (vp_updL f i.toNatClampNeg x))))) else none
    | _ => none
  | _ => none
def am_bas (ro : List am_E) (st : List Value) (h : List am_E) : Option am_Y := match st with
  | .int x :: .int i :: .ref a :: r => match am_dy ro h a with
    | some (.inl (t, n, .inl f)) => if am_iin i n = true then (if t = 2 then some (r, am_up ro h a (.inl (t, n, .inl (upd f i.toNatClampNeg x.toInt8.toInt32)))) else if t = 3 then some (r, am_up ro h a (.inl (t, n, .inl (upd f i.toNatClampNeg (x &&& 1))))) else none) else none
    | _ => none
  | _ => none
def am_aas (T : am_T) (ro : List am_E) (st : List Value) (h : List am_E) : Option am_Y := match st with
  | .null :: .int i :: .ref a :: r => match am_dy ro h a with
    | some (.inl (t, n, .inr (.inr (.inr (.inr f))))) => match (am_ty T)[t]? with
      | some (.object _) => if am_iin i n = true then some (r, am_up ro h a (.inl (t, n, .inr (.inr (.inr (.inr (va_up f i.toNatClampNeg none))))))) else none
      | _ => none
    | _ => none
  | .ref v :: .int i :: .ref a :: r => match am_dy ro h a, am_dy ro h v with
    | some (.inl (t, n, .inr (.inr (.inr (.inr f))))), some (.inr (cj, _)) => match (am_ty T)[t]?, (am_cl T)[cj]? with
      | some (.object C), some (C2, _, _) => if C = C2 ∧ am_iin i n = true then some (r, am_up ro h a (.inl (t, n, .inr (.inr (.inr (.inr (va_up f i.toNatClampNeg (some v)))))))) else none
      | _, _ => none
    | _, _ => none
  | _ => none
def am_aln (T : am_T) (ro : List am_E) (st : List Value) (h : List am_E) : Option am_Y := match st with
  | .ref a :: r => match am_at ro h a with
    | some (.inl (t, n, _)) => match (am_ty T)[t]? with
      | some _ => some (.int (Int32.ofNat n) :: r, h)
      | none => none
    | _ => none
  | _ => none
def am_new (T : am_T) (ro : List am_E) (m idx : Nat) (st : List Value) (h : List am_E) : Option am_Y := match am_kl T m idx with
  | some (ci, _) => match (am_cl T)[ci]? with
    | some _ => some (.ref (ro.length + h.length) :: st, h ++ [.inr (ci, am_df T ci)])
    | none => none
  | none => none
def am_nad (y : ArrayType) : Option (Nat × FieldType × ((Nat → Int32) ⊕ (Nat → Int64) ⊕ (Nat → UInt32) ⊕ (Nat → UInt64) ⊕ (Nat → Option Nat))) := match y with
  | .int => some (0, .int, .inl (fun _ => 0))
  | .long => some (1, .long, .inr (.inl (fun _ => 0)))
  | .byte => some (2, .byte, .inl (fun _ => 0))
  | .boolean => some (3, .boolean, .inl (fun _ => 0))
  | _ => none
def am_na (y : ArrayType) (ro : List am_E) (st : List Value) (h : List am_E) : Option am_Y := match st with
  | .int n :: r => match am_nad y with
    | some (t, _, x) => if ¬ n < 0 ∧ n.toNatClampNeg * 8 ≤ 536870912 then some (.ref (ro.length + h.length) :: r, h ++ [.inl (t, n.toNatClampNeg, x)]) else none
    | none => none
  | _ => none
def am_nq (T : am_T) (ro : List am_E) (m idx : Nat) (st : List Value) (h : List am_E) : Option am_Y := match st with
  | .int n :: r => match am_kl T m idx with
    | some (_, t) => match (am_ty T)[t]? with
      | some (.object _) => if ¬ n < 0 ∧ n.toNatClampNeg * 4 ≤ 536870912 then some (.ref (ro.length + h.length) :: r, h ++ [.inl (t, n.toNatClampNeg, .inr (.inr (.inr (.inr (fun _ => none)))))]) else none
      | _ => none
    | none => none
  | _ => none
def am_ldc (T : am_T) (m idx : Nat) (st : List Value) (h : List am_E) : Option am_Y := match am_cs T m idx with
  | some (.int x) => some (.int x :: st, h)
  | _ => none
def am_ldw (T : am_T) (m idx : Nat) (st : List Value) (h : List am_E) : Option am_Y := match am_cs T m idx with
  | some (.long x) => some (.long x :: st, h)
  | _ => none
def am_gs (T : am_T) (m idx : Nat) (st : List Value) (h : List am_E) : Option am_Y := match am_cs T m idx with
  | some (.ref a) => some (.ref a :: st, h)
  | _ => none
def am_hp (T : am_T) (ro : List am_E) (m : Nat) (i : Instr) (st : List Value) (h : List am_E) : Option am_Y := match i with
  | .getfield idx => am_gf T ro m idx st h
  | .putfield idx => am_pf T ro m idx st h
  | .iaload => am_ial ro st h
  | .laload => am_lal ro st h
  | .baload => am_bal ro st h
  | .aaload => am_aal T ro st h
  | .iastore => am_ias ro st h
  | .lastore => am_las ro st h
  | .bastore => am_bas ro st h
  | .aastore => am_aas T ro st h
  | .arraylength => am_aln T ro st h
  | .new idx => am_new T ro m idx st h
  | .newarray y => am_na y ro st h
  | .anewarray idx => am_nq T ro m idx st h
  | .ldc idx => am_ldc T m idx st h
  | .ldc2_w idx => am_ldw T m idx st h
  | .ldc_w idx => am_ldc T m idx st h
  | .getstatic idx => am_gs T m idx st h
  | _ => none
/-- cells and their slots -/
def am_sz (c : am_E) : Nat := match c with
  | .inl (_, n, _) => n
  | .inr (_, fs) => fs.length
def am_sl (h : List am_E) : Nat := (h.map am_sz).sum
theorem am_sl_push (h : List am_E) (c : am_E) : am_sl (h ++ [c]) = am_sl h + am_sz c := by
  unfold am_sl
  simp
theorem am_sl_set {h : List am_E} {i : Nat} {c c2 : am_E} (hi : h[i]? = some c) (hz : am_sz c2 = am_sz c) : am_sl (h.set i c2) = am_sl h := by
  unfold am_sl
  rw [List.map_set, hz]
  have : (h.map am_sz).set i (am_sz c) = h.map am_sz := by
    apply List.ext_getElem?
    intro j
    by_cases hj : i = j
    · subst hj
      have hl : i < h.length := (List.getElem?_eq_some_iff.mp hi).1
      rw [List.getElem?_set_self (by simpa using hl), List.getElem?_map, hi]
      rfl
    · rw [List.getElem?_set_ne hj]
  rw [this]
/-- the room that a step needs and leaves -/
def am_grow (h h2 : List am_E) : Prop := h.length ≤ h2.length ∧ am_sl h ≤ am_sl h2
theorem am_grow_rf (h : List am_E) : am_grow h h := ⟨Nat.le_refl _, Nat.le_refl _⟩
theorem am_grow_tr {a b c : List am_E} (h1 : am_grow a b) (h2 : am_grow b c) : am_grow a c := ⟨Nat.le_trans h1.1 h2.1, Nat.le_trans h1.2 h2.2⟩
theorem am_grow_push (h : List am_E) (c : am_E) : am_grow h (h ++ [c]) := ⟨by simp, by rw [am_sl_push]; exact Nat.le_add_right _ _⟩
theorem am_grow_up {ro h : List am_E} {a : Nat} {c c2 : am_E} (hd : am_dy ro h a = some c) (hz : am_sz c2 = am_sz c) : am_grow h (am_up ro h a c2) := by
  obtain ⟨i, rfl, hi⟩ := am_dy_ok hd
  rw [am_up_at]
  exact ⟨by simp, by rw [am_sl_set hi hz]; exact Nat.le_refl _⟩
