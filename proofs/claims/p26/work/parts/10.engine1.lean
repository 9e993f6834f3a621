/-- values with addresses of their own; g says where each lies -/
def am_v (g : Nat → Nat) (v : Value) : Value := match v with
  | .ref a => .ref (g a)
  | .int x => .int x
  | .long x => .long x
  | .float x => .float x
  | .double x => .double x
  | .null => .null
  | .retAddr x => .retAddr x
def am_l (g : Nat → Nat) (q : Nat × Value) : Nat × Value := (q.1, am_v g q.2)
theorem am_v_cat (g : Nat → Nat) (v : Value) : (am_v g v).category = v.category := by cases v <;> rfl
def am_ld (lv : List (Nat × Value)) (i : Nat) : Option Value := (lv.find? (fun q => q.1 == i)).map Prod.snd
def am_p1 (lv : List (Nat × Value)) (i : Nat) (v : Value) : List (Nat × Value) := (i, v) :: lv.filter (fun q => !(q.1 == i) && !(q.1 + 1 == i && q.2.category == 2))
def am_p2 (lv : List (Nat × Value)) (i : Nat) (v : Value) : List (Nat × Value) := (i, v) :: lv.filter (fun q => !(q.1 == i) && (!(q.1 == i + 1) && !(q.1 + 1 == i && q.2.category == 2)))
theorem am_ld_ok {lv : List (Nat × Value)} {i : Nat} {v : Value} {g : Nat → Nat} {ls : Array Slot} {nL : Nat} (h : am_ld lv i = some v) (hl : lv_has ls nL (lv.map (am_l g))) : ls[i]? = some (.val (am_v g v)) := by
  unfold am_ld at h
  cases hf : lv.find? (fun q => q.1 == i) with
  | none => rw [hf] at h; cases h
  | some q =>
    rw [hf] at h
    cases h
    have h1 := List.find?_some hf
    have h2 := List.mem_of_find?_eq_some hf
    have h3 : q.1 = i := by simpa using h1
    have h4 := hl.2.2 (am_l g q) (List.mem_map_of_mem h2)
    rw [← h3]
    exact h4
theorem am_ld_mem {lv : List (Nat × Value)} {i : Nat} {v : Value} {g : Nat → Nat} (h : am_ld lv i = some v) : ∃ k : Nat, (lv.map (am_l g))[k]? = some (i, am_v g v) := by
  unfold am_ld at h
  cases hf : lv.find? (fun q => q.1 == i) with
  | none => rw [hf] at h; cases h
  | some q =>
    rw [hf] at h
    cases h
    have h1 := List.find?_some hf
    have h2 := List.mem_of_find?_eq_some hf
    have h3 : q.1 = i := by simpa using h1
    obtain ⟨k, hk⟩ := List.getElem?_of_mem (List.mem_map_of_mem (f := am_l g) h2)
    exact ⟨k, by rw [hk, ← h3]; rfl⟩
theorem am_p1_map (g : Nat → Nat) (lv : List (Nat × Value)) (i : Nat) (v : Value) : (am_p1 lv i v).map (am_l g) = (i, am_v g v) :: (lv.map (am_l g)).filter (fun q => !(q.1 == i) && !(q.1 + 1 == i && q.2.category == 2)) := by
  unfold am_p1
  rw [List.map_cons, List.filter_map]
  congr 2
  apply congrArg (fun P => List.filter P lv)
  funext q
  simp [am_l, am_v_cat]
theorem am_p2_map (g : Nat → Nat) (lv : List (Nat × Value)) (i : Nat) (v : Value) : (am_p2 lv i v).map (am_l g) = (i, am_v g v) :: (lv.map (am_l g)).filter (fun q => !(q.1 == i) && (!(q.1 == i + 1) && !(q.1 + 1 == i && q.2.category == 2))) := by
  unfold am_p2
  rw [List.map_cons, List.filter_map]
  congr 2
  apply congrArg (fun P => List.filter P lv)
  funext q
  simp [am_l, am_v_cat]
abbrev am_X : Type := Nat × List (Nat × Value) × List Value
def am_jp (pc : Nat) (off : Int) : Option Nat := if 0 ≤ (pc : Int) + off then some ((pc : Int) + off).toNat else none
theorem am_jp_ok {pc t : Nat} {off : Int} (h : am_jp pc off = some t) : (pc : Int) + off = (t : Int) := by
  unfold am_jp at h
  split at h
  · cases h; omega
  · cases h
def am_ldi (lv : List (Nat × Value)) (st : List Value) (i t : Nat) : Option am_X := match am_ld lv i with
  | some (.int x) => some (t, lv, .int x :: st)
  | _ => none
def am_ldl (lv : List (Nat × Value)) (st : List Value) (i t : Nat) : Option am_X := match am_ld lv i with
  | some (.long x) => some (t, lv, .long x :: st)
  | _ => none
def am_lda (lv : List (Nat × Value)) (st : List Value) (i t : Nat) : Option am_X := match am_ld lv i with
  | some (.ref x) => some (t, lv, .ref x :: st)
  | some .null => some (t, lv, .null :: st)
  | _ => none
def am_sti (nL : Nat) (lv : List (Nat × Value)) (st : List Value) (i t : Nat) : Option am_X := match st with
  | .int x :: r => if i < nL then some (t, am_p1 lv i (.int x), r) else none
  | _ => none
def am_stl (nL : Nat) (lv : List (Nat × Value)) (st : List Value) (i t : Nat) : Option am_X := match st with
  | .long x :: r => if i + 1 < nL then some (t, am_p2 lv i (.long x), r) else none
  | _ => none
def am_sta (nL : Nat) (lv : List (Nat × Value)) (st : List Value) (i t : Nat) : Option am_X := match st with
  | .ref x :: r => if i < nL then some (t, am_p1 lv i (.ref x), r) else none
  | .null :: r => if i < nL then some (t, am_p1 lv i .null, r) else none
  | _ => none
def am_inc (nL : Nat) (lv : List (Nat × Value)) (st : List Value) (i : Nat) (n : Int) (t : Nat) : Option am_X := match am_ld lv i with
  | some (.int x) => if i < nL then some (t, am_p1 lv i (.int (x + Int32.ofInt n)), st) else none
  | _ => none
def am_i1 (f : Int32 → Int32) (lv : List (Nat × Value)) (st : List Value) (t : Nat) : Option am_X := match st with
  | .int x :: r => some (t, lv, .int (f x) :: r)
  | _ => none
def am_i2 (f : Int32 → Int32 → Int32) (lv : List (Nat × Value)) (st : List Value) (t : Nat) : Option am_X := match st with
  | .int y :: .int x :: r => some (t, lv, .int (f x y) :: r)
  | _ => none
def am_i3 (f : Int32 → Int32 → Int32) (lv : List (Nat × Value)) (st : List Value) (t : Nat) : Option am_X := match st with
  | .int y :: .int x :: r => if y = 0 then none else some (t, lv, .int (f x y) :: r)
  | _ => none
def am_l1 (f : Int64 → Int64) (lv : List (Nat × Value)) (st : List Value) (t : Nat) : Option am_X := match st with
  | .long x :: r => some (t, lv, .long (f x) :: r)
  | _ => none
def am_l2 (f : Int64 → Int64 → Int64) (lv : List (Nat × Value)) (st : List Value) (t : Nat) : Option am_X := match st with
  | .long y :: .long x :: r => some (t, lv, .long (f x y) :: r)
  | _ => none
def am_ls (f : Int64 → Int32 → Int64) (lv : List (Nat × Value)) (st : List Value) (t : Nat) : Option am_X := match st with
  | .int y :: .long x :: r => some (t, lv, .long (f x y) :: r)
  | _ => none
def am_pu (nL : Nat) (i : Instr) (pc : Nat) (lv : List (Nat × Value)) (st : List Value) : Option am_X := match i with
  | .iconst n => some (pc + 1, lv, .int (Int32.ofInt n) :: st)
  | .bipush n => some (pc + 2, lv, .int (Int8.ofInt n).toInt32 :: st)
  | .sipush n => some (pc + 3, lv, .int (Int16.ofInt n).toInt32 :: st)
  | .lconst n => some (pc + 1, lv, .long (Int64.ofNat (n : Nat)) :: st)
  | .aconst_null => some (pc + 1, lv, .null :: st)
  | .iload_n k => am_ldi lv st (k : Nat) (pc + 1)
  | .iload k => am_ldi lv st k (pc + 2)
  | .lload_n k => am_ldl lv st (k : Nat) (pc + 1)
  | .lload k => am_ldl lv st k (pc + 2)
  | .aload_n k => am_lda lv st (k : Nat) (pc + 1)
  | .aload k => am_lda lv st k (pc + 2)
  | .istore_n k => am_sti nL lv st (k : Nat) (pc + 1)
  | .istore k => am_sti nL lv st k (pc + 2)
  | .lstore_n k => am_stl nL lv st (k : Nat) (pc + 1)
  | .lstore k => am_stl nL lv st k (pc + 2)
  | .astore_n k => am_sta nL lv st (k : Nat) (pc + 1)
  | .astore k => am_sta nL lv st k (pc + 2)
  | .iinc k n => am_inc nL lv st k n (pc + 3)
  | .iadd => am_i2 (fun x y => x + y) lv st (pc + 1)
  | .isub => am_i2 (fun x y => x - y) lv st (pc + 1)
  | .imul => am_i2 (fun x y => x * y) lv st (pc + 1)
  | .iand => am_i2 (fun x y => x &&& y) lv st (pc + 1)
  | .ior => am_i2 (fun x y => x ||| y) lv st (pc + 1)
  | .ixor => am_i2 (fun x y => x ^^^ y) lv st (pc + 1)
  | .ishl => am_i2 (fun x y => x <<< (y &&& 31)) lv st (pc + 1)
  | .ishr => am_i2 (fun x y => x >>> (y &&& 31)) lv st (pc + 1)
  | .iushr => am_i2 (fun x y => (x.toUInt32 >>> (y.toUInt32 &&& Int32.toUInt32 31)).toInt32) lv st (pc + 1)
  | .idiv => am_i3 (fun x y => x / y) lv st (pc + 1)
  | .irem => am_i3 (fun x y => x - x / y * y) lv st (pc + 1)
  | .ineg => am_i1 (fun x => -x) lv st (pc + 1)
  | .i2b => am_i1 (fun x => x.toInt8.toInt32) lv st (pc + 1)
  | .i2s => am_i1 (fun x => x.toInt16.toInt32) lv st (pc + 1)
  | .i2c => am_i1 (fun x => (x.toUInt32 % 65536).toInt32) lv st (pc + 1)
  | .ladd => am_l2 (fun x y => x + y) lv st (pc + 1)
  | .lsub => am_l2 (fun x y => x - y) lv st (pc + 1)
  | .lmul => am_l2 (fun x y => x * y) lv st (pc + 1)
  | .land => am_l2 (fun x y => x &&& y) lv st (pc + 1)
  | .lor => am_l2 (fun x y => x ||| y) lv st (pc + 1)
  | .lxor => am_l2 (fun x y => x ^^^ y) lv st (pc + 1)
  | .lneg => am_l1 (fun x => -x) lv st (pc + 1)
  | .lshl => am_ls (fun x y => x <<< (y.toInt64 &&& 63)) lv st (pc + 1)
  | .lshr => am_ls (fun x y => x >>> (y.toInt64 &&& 63)) lv st (pc + 1)
  | .lushr => am_ls (fun x y => (x.toUInt64 >>> (y.toInt64.toUInt64 &&& Int64.toUInt64 63)).toInt64) lv st (pc + 1)
  | .i2l => (match st with | .int x :: r => some (pc + 1, lv, .long x.toInt64 :: r) | _ => none)
  | .l2i => (match st with | .long x :: r => some (pc + 1, lv, .int x.toInt32 :: r) | _ => none)
  | .lcmp => (match st with | .long y :: .long x :: r => some (pc + 1, lv, .int (lg_cmp x y) :: r) | _ => none)
  | .dup => (match st with | a :: r => if a.category = 1 then some (pc + 1, lv, a :: a :: r) else none | _ => none)
  | .pop => (match st with | a :: r => if a.category = 1 then some (pc + 1, lv, r) else none | _ => none)
  | .dup_x1 => (match st with | a :: b :: r => if a.category = 1 ∧ b.category = 1 then some (pc + 1, lv, a :: b :: a :: r) else none | _ => none)
  | .dup2 => (match st with | a :: b :: r => if a.category = 1 ∧ b.category = 1 then some (pc + 1, lv, a :: b :: a :: b :: r) else none | _ => none)
  | .goto off => (match am_jp pc off with | some t => some (t, lv, st) | none => none)
  | .ifCond .eq off => (match st, am_jp pc off with | .int x :: r, some t => if x = 0 then some (t, lv, r) else some (pc + 3, lv, r) | _, _ => none)
  | .ifCond .ne off => (match st, am_jp pc off with | .int x :: r, some t => if x = 0 then some (pc + 3, lv, r) else some (t, lv, r) | _, _ => none)
  | .ifCond .lt off => (match st, am_jp pc off with | .int x :: r, some t => if x < 0 then some (t, lv, r) else some (pc + 3, lv, r) | _, _ => none)
  | .ifCond .ge off => (match st, am_jp pc off with | .int x :: r, some t => if 0 ≤ x then some (t, lv, r) else some (pc + 3, lv, r) | _, _ => none)
  | .ifCond .gt off => (match st, am_jp pc off with | .int x :: r, some t => if 0 < x then some (t, lv, r) else some (pc + 3, lv, r) | _, _ => none)
  | .ifCond .le off => (match st, am_jp pc off with | .int x :: r, some t => if x ≤ 0 then some (t, lv, r) else some (pc + 3, lv, r) | _, _ => none)
  | .if_icmp .eq off => (match st, am_jp pc off with | .int y :: .int x :: r, some t => if x = y then some (t, lv, r) else some (pc + 3, lv, r) | _, _ => none)
  | .if_icmp .ne off => (match st, am_jp pc off with | .int y :: .int x :: r, some t => if x = y then some (pc + 3, lv, r) else some (t, lv, r) | _, _ => none)
  | .if_icmp .lt off => (match st, am_jp pc off with | .int y :: .int x :: r, some t => if x < y then some (t, lv, r) else some (pc + 3, lv, r) | _, _ => none)
  | .if_icmp .ge off => (match st, am_jp pc off with | .int y :: .int x :: r, some t => if y ≤ x then some (t, lv, r) else some (pc + 3, lv, r) | _, _ => none)
  | .if_icmp .gt off => (match st, am_jp pc off with | .int y :: .int x :: r, some t => if y < x then some (t, lv, r) else some (pc + 3, lv, r) | _, _ => none)
  | .if_icmp .le off => (match st, am_jp pc off with | .int y :: .int x :: r, some t => if x ≤ y then some (t, lv, r) else some (pc + 3, lv, r) | _, _ => none)
  | .ifnull off => (match st, am_jp pc off with | .null :: r, some t => some (t, lv, r) | .ref _ :: r, _ => some (pc + 3, lv, r) | _, _ => none)
  | .ifnonnull off => (match st, am_jp pc off with | .ref _ :: r, some t => some (t, lv, r) | .null :: r, _ => some (pc + 3, lv, r) | _, _ => none)
  | .if_acmp .eq off => (match st, am_jp pc off with | .ref y :: .ref x :: r, some t => if x = y then some (t, lv, r) else some (pc + 3, lv, r) | .null :: .ref _ :: r, some t => some (pc + 3, lv, r) | .ref _ :: .null :: r, some t => some (pc + 3, lv, r) | .null :: .null :: r, some t => some (t, lv, r) | _, _ => none)
  | .if_acmp .ne off => (match st, am_jp pc off with | .ref y :: .ref x :: r, some t => if x = y then some (pc + 3, lv, r) else some (t, lv, r) | .null :: .ref _ :: r, some t => some (t, lv, r) | .ref _ :: .null :: r, some t => some (t, lv, r) | .null :: .null :: r, some t => some (pc + 3, lv, r) | _, _ => none)
  | .tableswitch d lo hi offs => (match st with | .int x :: r => if x.toInt < lo ∨ hi < x.toInt then (match am_jp pc d with | some t => some (t, lv, r) | none => none) else (match offs[(x.toInt - lo).toNat]? with | some off => (match am_jp pc off with | some t => some (t, lv, r) | none => none) | none => none) | _ => none)
  | .lookupswitch d ps => (match st with | .int x :: r => if (ps.toList.zip (ps.toList.drop 1)).all (fun q => decide (q.1.1 < q.2.1)) = true then (match am_jp pc (Op.lookupswitch.offset ps.toList d x.toInt) with | some t => some (t, lv, r) | none => none) else none | _ => none)
  | _ => none
def am_ln (i : Instr) : Nat := match i with
  | .iconst n => 1
  | .bipush n => 2
  | .sipush n => 3
  | .lconst n => 1
  | .aconst_null => 1
  | .iload_n k => 1
  | .iload k => 2
  | .lload_n k => 1
  | .lload k => 2
  | .aload_n k => 1
  | .aload k => 2
  | .istore_n k => 1
  | .istore k => 2
  | .lstore_n k => 1
  | .lstore k => 2
  | .astore_n k => 1
  | .astore k => 2
  | .iinc k n => 3
  | .iadd => 1
  | .isub => 1
  | .imul => 1
  | .iand => 1
  | .ior => 1
  | .ixor => 1
  | .ishl => 1
  | .ishr => 1
  | .iushr => 1
  | .idiv => 1
  | .irem => 1
  | .ineg => 1
  | .i2b => 1
  | .i2s => 1
  | .i2c => 1
  | .ladd => 1
  | .lsub => 1
  | .lmul => 1
  | .land => 1
  | .lor => 1
  | .lxor => 1
  | .lneg => 1
  | .lshl => 1
  | .lshr => 1
  | .lushr => 1
  | .i2l => 1
  | .l2i => 1
  | .lcmp => 1
  | .dup => 1
  | .pop => 1
  | .dup_x1 => 1
  | .dup2 => 1
  | .goto off => 3
  | .ifCond .eq off => 3
  | .ifCond .ne off => 3
  | .ifCond .lt off => 3
  | .ifCond .ge off => 3
  | .ifCond .gt off => 3
  | .ifCond .le off => 3
  | .if_icmp .eq off => 3
  | .if_icmp .ne off => 3
  | .if_icmp .lt off => 3
  | .if_icmp .ge off => 3
  | .if_icmp .gt off => 3
  | .if_icmp .le off => 3
  | .ifnull off => 3
  | .ifnonnull off => 3
  | .if_acmp .eq off => 3
  | .if_acmp .ne off => 3
  | .getfield _ => 3
  | .putfield _ => 3
  | .iaload => 1
  | .laload => 1
  | .baload => 1
  | .aaload => 1
  | .iastore => 1
  | .lastore => 1
  | .bastore => 1
  | .aastore => 1
  | .arraylength => 1
  | .new _ => 3
  | .newarray _ => 2
  | .anewarray _ => 3
  | .ldc _ => 2
  | .ldc2_w _ => 3
  | .ldc_w _ => 3
  | .getstatic _ => 3
  | .invokevirtual _ => 3
  | .invokestatic _ => 3
  | .invokespecial _ => 3
  | .ireturn => 1
  | .lreturn => 1
  | .areturn => 1
  | .return_ => 1
  | _ => 0
section AM1
variable {p : Program} {l : Launch} {e : Env} {R : Room} {s : State} {m : MethodId} {args : Array Value} {below : List Frame} {meth : Method} {c : Code} {H : Heap} {locs : List Loc} {cells slots : Nat} {Q : State → Prop}
variable {cc : ByteArray} {pc nL pc2 : Nat} {ls : Array Slot} {lv lv2 : List (Nat × Value)} {st st2 : List Value} {g : Nat → Nat}
theorem am_s0 {n : Int} (hx : p.tables.exec = Jvm.exec) (hb : c.code = cc) (hg : ∀ x y, g x = g y → x = y) (hd : decode cc pc = .ok (.iconst n, 1)) (h : some (pc + 1, lv, .int (Int32.ofInt n) :: st) = some (pc2, lv2, st2)) (hl : lv_has ls nL (lv.map (am_l g))) (K : ∀ ls2 : Array Slot, lv_has ls2 nL (lv2.map (am_l g)) → W p l e R s m args below meth c H locs cells slots Q (F0 m pc2 ls2 (st2.map (am_v g)))) : W p l e R s m args below meth c H locs cells slots Q (F0 m pc ls (st.map (am_v g))) := by
  cases h
  exact lv_iconst hx hb hd rfl (K ls hl)
theorem am_s1 {n : Int} (hx : p.tables.exec = Jvm.exec) (hb : c.code = cc) (hg : ∀ x y, g x = g y → x = y) (hd : decode cc pc = .ok (.bipush n, 2)) (h : some (pc + 2, lv, .int (Int8.ofInt n).toInt32 :: st) = some (pc2, lv2, st2)) (hl : lv_has ls nL (lv.map (am_l g))) (K : ∀ ls2 : Array Slot, lv_has ls2 nL (lv2.map (am_l g)) → W p l e R s m args below meth c H locs cells slots Q (F0 m pc2 ls2 (st2.map (am_v g)))) : W p l e R s m args below meth c H locs cells slots Q (F0 m pc ls (st.map (am_v g))) := by
  cases h
  exact lv_bipush hx hb hd rfl (K ls hl)
theorem am_s2 {n : Int} (hx : p.tables.exec = Jvm.exec) (hb : c.code = cc) (hg : ∀ x y, g x = g y → x = y) (hd : decode cc pc = .ok (.sipush n, 3)) (h : some (pc + 3, lv, .int (Int16.ofInt n).toInt32 :: st) = some (pc2, lv2, st2)) (hl : lv_has ls nL (lv.map (am_l g))) (K : ∀ ls2 : Array Slot, lv_has ls2 nL (lv2.map (am_l g)) → W p l e R s m args below meth c H locs cells slots Q (F0 m pc2 ls2 (st2.map (am_v g)))) : W p l e R s m args below meth c H locs cells slots Q (F0 m pc ls (st.map (am_v g))) := by
  cases h
  exact lv_sipush hx hb hd rfl (K ls hl)
theorem am_s3 {n : Fin 2} (hx : p.tables.exec = Jvm.exec) (hb : c.code = cc) (hg : ∀ x y, g x = g y → x = y) (hd : decode cc pc = .ok (.lconst n, 1)) (h : some (pc + 1, lv, .long (Int64.ofNat (n : Nat)) :: st) = some (pc2, lv2, st2)) (hl : lv_has ls nL (lv.map (am_l g))) (K : ∀ ls2 : Array Slot, lv_has ls2 nL (lv2.map (am_l g)) → W p l e R s m args below meth c H locs cells slots Q (F0 m pc2 ls2 (st2.map (am_v g)))) : W p l e R s m args below meth c H locs cells slots Q (F0 m pc ls (st.map (am_v g))) := by
  cases h
  exact lv_lconst hx hb hd rfl (K ls hl)
theorem am_s4  (hx : p.tables.exec = Jvm.exec) (hb : c.code = cc) (hg : ∀ x y, g x = g y → x = y) (hd : decode cc pc = .ok (.aconst_null, 1)) (h : some (pc + 1, lv, .null :: st) = some (pc2, lv2, st2)) (hl : lv_has ls nL (lv.map (am_l g))) (K : ∀ ls2 : Array Slot, lv_has ls2 nL (lv2.map (am_l g)) → W p l e R s m args below meth c H locs cells slots Q (F0 m pc2 ls2 (st2.map (am_v g)))) : W p l e R s m args below meth c H locs cells slots Q (F0 m pc ls (st.map (am_v g))) := by
  cases h
  exact lv_null hx hb hd (K ls hl)
theorem am_s5 {k : Fin 4} (hx : p.tables.exec = Jvm.exec) (hb : c.code = cc) (hg : ∀ x y, g x = g y → x = y) (hd : decode cc pc = .ok (.iload_n k, 1)) (h : am_ldi lv st (k : Nat) (pc + 1) = some (pc2, lv2, st2)) (hl : lv_has ls nL (lv.map (am_l g))) (K : ∀ ls2 : Array Slot, lv_has ls2 nL (lv2.map (am_l g)) → W p l e R s m args below meth c H locs cells slots Q (F0 m pc2 ls2 (st2.map (am_v g)))) : W p l e R s m args below meth c H locs cells slots Q (F0 m pc ls (st.map (am_v g))) := by
  unfold am_ldi at h
  split at h
  · rename_i x hv
    cases h
    exact lv_iload_n hx hb hd rfl (am_ld_ok hv hl) (K ls hl)
  · cases h
theorem am_s6 {k : Nat} (hx : p.tables.exec = Jvm.exec) (hb : c.code = cc) (hg : ∀ x y, g x = g y → x = y) (hd : decode cc pc = .ok (.iload k, 2)) (h : am_ldi lv st k (pc + 2) = some (pc2, lv2, st2)) (hl : lv_has ls nL (lv.map (am_l g))) (K : ∀ ls2 : Array Slot, lv_has ls2 nL (lv2.map (am_l g)) → W p l e R s m args below meth c H locs cells slots Q (F0 m pc2 ls2 (st2.map (am_v g)))) : W p l e R s m args below meth c H locs cells slots Q (F0 m pc ls (st.map (am_v g))) := by
  unfold am_ldi at h
  split at h
  · rename_i x hv
    cases h
    exact lv_iload hx hb hd (am_ld_ok hv hl) (K ls hl)
  · cases h
theorem am_s7 {k : Fin 4} (hx : p.tables.exec = Jvm.exec) (hb : c.code = cc) (hg : ∀ x y, g x = g y → x = y) (hd : decode cc pc = .ok (.lload_n k, 1)) (h : am_ldl lv st (k : Nat) (pc + 1) = some (pc2, lv2, st2)) (hl : lv_has ls nL (lv.map (am_l g))) (K : ∀ ls2 : Array Slot, lv_has ls2 nL (lv2.map (am_l g)) → W p l e R s m args below meth c H locs cells slots Q (F0 m pc2 ls2 (st2.map (am_v g)))) : W p l e R s m args below meth c H locs cells slots Q (F0 m pc ls (st.map (am_v g))) := by
  unfold am_ldl at h
  split at h
  · rename_i x hv
    cases h
    exact lv_lload_n hx hb hd rfl (am_ld_ok hv hl) (K ls hl)
  · cases h
theorem am_s8 {k : Nat} (hx : p.tables.exec = Jvm.exec) (hb : c.code = cc) (hg : ∀ x y, g x = g y → x = y) (hd : decode cc pc = .ok (.lload k, 2)) (h : am_ldl lv st k (pc + 2) = some (pc2, lv2, st2)) (hl : lv_has ls nL (lv.map (am_l g))) (K : ∀ ls2 : Array Slot, lv_has ls2 nL (lv2.map (am_l g)) → W p l e R s m args below meth c H locs cells slots Q (F0 m pc2 ls2 (st2.map (am_v g)))) : W p l e R s m args below meth c H locs cells slots Q (F0 m pc ls (st.map (am_v g))) := by
  unfold am_ldl at h
  split at h
  · rename_i x hv
    cases h
    exact lv_lload hx hb hd (am_ld_ok hv hl) (K ls hl)
  · cases h
theorem am_s9 {k : Fin 4} (hx : p.tables.exec = Jvm.exec) (hb : c.code = cc) (hg : ∀ x y, g x = g y → x = y) (hd : decode cc pc = .ok (.aload_n k, 1)) (h : am_lda lv st (k : Nat) (pc + 1) = some (pc2, lv2, st2)) (hl : lv_has ls nL (lv.map (am_l g))) (K : ∀ ls2 : Array Slot, lv_has ls2 nL (lv2.map (am_l g)) → W p l e R s m args below meth c H locs cells slots Q (F0 m pc2 ls2 (st2.map (am_v g)))) : W p l e R s m args below meth c H locs cells slots Q (F0 m pc ls (st.map (am_v g))) := by
  unfold am_lda at h
  split at h
  · rename_i x hv
    cases h
    exact lv_aload_n hx hb hd rfl (am_ld_ok hv hl) (K ls hl)
  · rename_i hv
    cases h
    exact lv_aload_nN hx hb hd rfl (am_ld_ok hv hl) (K ls hl)
  · cases h
theorem am_s10 {k : Nat} (hx : p.tables.exec = Jvm.exec) (hb : c.code = cc) (hg : ∀ x y, g x = g y → x = y) (hd : decode cc pc = .ok (.aload k, 2)) (h : am_lda lv st k (pc + 2) = some (pc2, lv2, st2)) (hl : lv_has ls nL (lv.map (am_l g))) (K : ∀ ls2 : Array Slot, lv_has ls2 nL (lv2.map (am_l g)) → W p l e R s m args below meth c H locs cells slots Q (F0 m pc2 ls2 (st2.map (am_v g)))) : W p l e R s m args below meth c H locs cells slots Q (F0 m pc ls (st.map (am_v g))) := by
  unfold am_lda at h
  split at h
  · rename_i x hv
    cases h
    exact lv_aload hx hb hd (am_ld_ok hv hl) (K ls hl)
  · rename_i hv
    cases h
    exact lv_aloadN hx hb hd (am_ld_ok hv hl) (K ls hl)
  · cases h
theorem am_s11 {k : Fin 4} (hx : p.tables.exec = Jvm.exec) (hb : c.code = cc) (hg : ∀ x y, g x = g y → x = y) (hd : decode cc pc = .ok (.istore_n k, 1)) (h : am_sti nL lv st (k : Nat) (pc + 1) = some (pc2, lv2, st2)) (hl : lv_has ls nL (lv.map (am_l g))) (K : ∀ ls2 : Array Slot, lv_has ls2 nL (lv2.map (am_l g)) → W p l e R s m args below meth c H locs cells slots Q (F0 m pc2 ls2 (st2.map (am_v g)))) : W p l e R s m args below meth c H locs cells slots Q (F0 m pc ls (st.map (am_v g))) := by
  unfold am_sti at h
  split at h
  · split at h
    · rename_i hn
      cases h
      exact lv_istore_n hx hb hd rfl hl hn (am_p1_map g lv _ (.int _)).symm (fun ls hl => K ls hl)
    · cases h
  · cases h
theorem am_s12 {k : Nat} (hx : p.tables.exec = Jvm.exec) (hb : c.code = cc) (hg : ∀ x y, g x = g y → x = y) (hd : decode cc pc = .ok (.istore k, 2)) (h : am_sti nL lv st k (pc + 2) = some (pc2, lv2, st2)) (hl : lv_has ls nL (lv.map (am_l g))) (K : ∀ ls2 : Array Slot, lv_has ls2 nL (lv2.map (am_l g)) → W p l e R s m args below meth c H locs cells slots Q (F0 m pc2 ls2 (st2.map (am_v g)))) : W p l e R s m args below meth c H locs cells slots Q (F0 m pc ls (st.map (am_v g))) := by
  unfold am_sti at h
  split at h
  · split at h
    · rename_i hn
      cases h
      exact lv_istore hx hb hd hl hn (am_p1_map g lv _ (.int _)).symm (fun ls hl => K ls hl)
    · cases h
  · cases h
theorem am_s13 {k : Fin 4} (hx : p.tables.exec = Jvm.exec) (hb : c.code = cc) (hg : ∀ x y, g x = g y → x = y) (hd : decode cc pc = .ok (.lstore_n k, 1)) (h : am_stl nL lv st (k : Nat) (pc + 1) = some (pc2, lv2, st2)) (hl : lv_has ls nL (lv.map (am_l g))) (K : ∀ ls2 : Array Slot, lv_has ls2 nL (lv2.map (am_l g)) → W p l e R s m args below meth c H locs cells slots Q (F0 m pc2 ls2 (st2.map (am_v g)))) : W p l e R s m args below meth c H locs cells slots Q (F0 m pc ls (st.map (am_v g))) := by
  unfold am_stl at h
  split at h
  · split at h
    · rename_i hn
      cases h
      exact lv_lstore_n hx hb hd rfl hl hn (am_p2_map g lv _ (.long _)).symm (fun ls hl => K ls hl)
    · cases h
  · cases h
theorem am_s14 {k : Nat} (hx : p.tables.exec = Jvm.exec) (hb : c.code = cc) (hg : ∀ x y, g x = g y → x = y) (hd : decode cc pc = .ok (.lstore k, 2)) (h : am_stl nL lv st k (pc + 2) = some (pc2, lv2, st2)) (hl : lv_has ls nL (lv.map (am_l g))) (K : ∀ ls2 : Array Slot, lv_has ls2 nL (lv2.map (am_l g)) → W p l e R s m args below meth c H locs cells slots Q (F0 m pc2 ls2 (st2.map (am_v g)))) : W p l e R s m args below meth c H locs cells slots Q (F0 m pc ls (st.map (am_v g))) := by
  unfold am_stl at h
  split at h
  · split at h
    · rename_i hn
      cases h
      exact lv_lstore hx hb hd hl hn (am_p2_map g lv _ (.long _)).symm (fun ls hl => K ls hl)
    · cases h
  · cases h
theorem am_s15 {k : Fin 4} (hx : p.tables.exec = Jvm.exec) (hb : c.code = cc) (hg : ∀ x y, g x = g y → x = y) (hd : decode cc pc = .ok (.astore_n k, 1)) (h : am_sta nL lv st (k : Nat) (pc + 1) = some (pc2, lv2, st2)) (hl : lv_has ls nL (lv.map (am_l g))) (K : ∀ ls2 : Array Slot, lv_has ls2 nL (lv2.map (am_l g)) → W p l e R s m args below meth c H locs cells slots Q (F0 m pc2 ls2 (st2.map (am_v g)))) : W p l e R s m args below meth c H locs cells slots Q (F0 m pc ls (st.map (am_v g))) := by
  unfold am_sta at h
  split at h
  · split at h
    · rename_i hn
      cases h
      exact lv_astore_n hx hb hd rfl hl hn (am_p1_map g lv _ (.ref _)).symm (fun ls hl => K ls hl)
    · cases h
  · split at h
    · rename_i hn
      cases h
      exact lv_astore_nN hx hb hd rfl hl hn (am_p1_map g lv _ .null).symm (fun ls hl => K ls hl)
    · cases h
  · cases h
theorem am_s16 {k : Nat} (hx : p.tables.exec = Jvm.exec) (hb : c.code = cc) (hg : ∀ x y, g x = g y → x = y) (hd : decode cc pc = .ok (.astore k, 2)) (h : am_sta nL lv st k (pc + 2) = some (pc2, lv2, st2)) (hl : lv_has ls nL (lv.map (am_l g))) (K : ∀ ls2 : Array Slot, lv_has ls2 nL (lv2.map (am_l g)) → W p l e R s m args below meth c H locs cells slots Q (F0 m pc2 ls2 (st2.map (am_v g)))) : W p l e R s m args below meth c H locs cells slots Q (F0 m pc ls (st.map (am_v g))) := by
  unfold am_sta at h
  split at h
  · split at h
    · rename_i hn
      cases h
      exact lv_astore hx hb hd hl hn (am_p1_map g lv _ (.ref _)).symm (fun ls hl => K ls hl)
    · cases h
  · split at h
    · rename_i hn
      cases h
      exact lv_astoreN hx hb hd hl hn (am_p1_map g lv _ .null).symm (fun ls hl => K ls hl)
    · cases h
  · cases h
theorem am_s17 {k : Nat} {n : Int} (hx : p.tables.exec = Jvm.exec) (hb : c.code = cc) (hg : ∀ x y, g x = g y → x = y) (hd : decode cc pc = .ok (.iinc k n, 3)) (h : am_inc nL lv st k n (pc + 3) = some (pc2, lv2, st2)) (hl : lv_has ls nL (lv.map (am_l g))) (K : ∀ ls2 : Array Slot, lv_has ls2 nL (lv2.map (am_l g)) → W p l e R s m args below meth c H locs cells slots Q (F0 m pc2 ls2 (st2.map (am_v g)))) : W p l e R s m args below meth c H locs cells slots Q (F0 m pc ls (st.map (am_v g))) := by
  unfold am_inc at h
  split at h
  · rename_i x hv
    split at h
    · rename_i hn
      cases h
      obtain ⟨j, hj⟩ := am_ld_mem (g := g) hv
      exact lv_iinc hx hb hd hl hj rfl hn (am_p1_map g lv _ (.int _)).symm (fun ls hl => K ls hl)
    · cases h
  · cases h
theorem am_s18  (hx : p.tables.exec = Jvm.exec) (hb : c.code = cc) (hg : ∀ x y, g x = g y → x = y) (hd : decode cc pc = .ok (.iadd, 1)) (h : am_i2 (fun x y => x + y) lv st (pc + 1) = some (pc2, lv2, st2)) (hl : lv_has ls nL (lv.map (am_l g))) (K : ∀ ls2 : Array Slot, lv_has ls2 nL (lv2.map (am_l g)) → W p l e R s m args below meth c H locs cells slots Q (F0 m pc2 ls2 (st2.map (am_v g)))) : W p l e R s m args below meth c H locs cells slots Q (F0 m pc ls (st.map (am_v g))) := by
  unfold am_i2 at h
  split at h
  · cases h
    exact lv_iadd hx hb hd (K ls hl)
  · cases h
theorem am_s19  (hx : p.tables.exec = Jvm.exec) (hb : c.code = cc) (hg : ∀ x y, g x = g y → x = y) (hd : decode cc pc = .ok (.isub, 1)) (h : am_i2 (fun x y => x - y) lv st (pc + 1) = some (pc2, lv2, st2)) (hl : lv_has ls nL (lv.map (am_l g))) (K : ∀ ls2 : Array Slot, lv_has ls2 nL (lv2.map (am_l g)) → W p l e R s m args below meth c H locs cells slots Q (F0 m pc2 ls2 (st2.map (am_v g)))) : W p l e R s m args below meth c H locs cells slots Q (F0 m pc ls (st.map (am_v g))) := by
  unfold am_i2 at h
  split at h
  · cases h
    exact lv_isub hx hb hd (K ls hl)
  · cases h
theorem am_s20  (hx : p.tables.exec = Jvm.exec) (hb : c.code = cc) (hg : ∀ x y, g x = g y → x = y) (hd : decode cc pc = .ok (.imul, 1)) (h : am_i2 (fun x y => x * y) lv st (pc + 1) = some (pc2, lv2, st2)) (hl : lv_has ls nL (lv.map (am_l g))) (K : ∀ ls2 : Array Slot, lv_has ls2 nL (lv2.map (am_l g)) → W p l e R s m args below meth c H locs cells slots Q (F0 m pc2 ls2 (st2.map (am_v g)))) : W p l e R s m args below meth c H locs cells slots Q (F0 m pc ls (st.map (am_v g))) := by
  unfold am_i2 at h
  split at h
  · cases h
    exact lv_imul hx hb hd (K ls hl)
  · cases h
theorem am_s21  (hx : p.tables.exec = Jvm.exec) (hb : c.code = cc) (hg : ∀ x y, g x = g y → x = y) (hd : decode cc pc = .ok (.iand, 1)) (h : am_i2 (fun x y => x &&& y) lv st (pc + 1) = some (pc2, lv2, st2)) (hl : lv_has ls nL (lv.map (am_l g))) (K : ∀ ls2 : Array Slot, lv_has ls2 nL (lv2.map (am_l g)) → W p l e R s m args below meth c H locs cells slots Q (F0 m pc2 ls2 (st2.map (am_v g)))) : W p l e R s m args below meth c H locs cells slots Q (F0 m pc ls (st.map (am_v g))) := by
  unfold am_i2 at h
  split at h
  · cases h
    exact lv_iand hx hb hd (K ls hl)
  · cases h
theorem am_s22  (hx : p.tables.exec = Jvm.exec) (hb : c.code = cc) (hg : ∀ x y, g x = g y → x = y) (hd : decode cc pc = .ok (.ior, 1)) (h : am_i2 (fun x y => x ||| y) lv st (pc + 1) = some (pc2, lv2, st2)) (hl : lv_has ls nL (lv.map (am_l g))) (K : ∀ ls2 : Array Slot, lv_has ls2 nL (lv2.map (am_l g)) → W p l e R s m args below meth c H locs cells slots Q (F0 m pc2 ls2 (st2.map (am_v g)))) : W p l e R s m args below meth c H locs cells slots Q (F0 m pc ls (st.map (am_v g))) := by
  unfold am_i2 at h
  split at h
  · cases h
    exact lv_ior hx hb hd (K ls hl)
  · cases h
theorem am_s23  (hx : p.tables.exec = Jvm.exec) (hb : c.code = cc) (hg : ∀ x y, g x = g y → x = y) (hd : decode cc pc = .ok (.ixor, 1)) (h : am_i2 (fun x y => x ^^^ y) lv st (pc + 1) = some (pc2, lv2, st2)) (hl : lv_has ls nL (lv.map (am_l g))) (K : ∀ ls2 : Array Slot, lv_has ls2 nL (lv2.map (am_l g)) → W p l e R s m args below meth c H locs cells slots Q (F0 m pc2 ls2 (st2.map (am_v g)))) : W p l e R s m args below meth c H locs cells slots Q (F0 m pc ls (st.map (am_v g))) := by
  unfold am_i2 at h
  split at h
  · cases h
    exact lv_ixor hx hb hd (K ls hl)
  · cases h
theorem am_s24  (hx : p.tables.exec = Jvm.exec) (hb : c.code = cc) (hg : ∀ x y, g x = g y → x = y) (hd : decode cc pc = .ok (.ishl, 1)) (h : am_i2 (fun x y => x <<< (y &&& 31)) lv st (pc + 1) = some (pc2, lv2, st2)) (hl : lv_has ls nL (lv.map (am_l g))) (K : ∀ ls2 : Array Slot, lv_has ls2 nL (lv2.map (am_l g)) → W p l e R s m args below meth c H locs cells slots Q (F0 m pc2 ls2 (st2.map (am_v g)))) : W p l e R s m args below meth c H locs cells slots Q (F0 m pc ls (st.map (am_v g))) := by
  unfold am_i2 at h
  split at h
  · cases h
    exact lv_ishl hx hb hd (K ls hl)
  · cases h
theorem am_s25  (hx : p.tables.exec = Jvm.exec) (hb : c.code = cc) (hg : ∀ x y, g x = g y → x = y) (hd : decode cc pc = .ok (.ishr, 1)) (h : am_i2 (fun x y => x >>> (y &&& 31)) lv st (pc + 1) = some (pc2, lv2, st2)) (hl : lv_has ls nL (lv.map (am_l g))) (K : ∀ ls2 : Array Slot, lv_has ls2 nL (lv2.map (am_l g)) → W p l e R s m args below meth c H locs cells slots Q (F0 m pc2 ls2 (st2.map (am_v g)))) : W p l e R s m args below meth c H locs cells slots Q (F0 m pc ls (st.map (am_v g))) := by
  unfold am_i2 at h
  split at h
  · cases h
    exact lv_ishr hx hb hd (K ls hl)
  · cases h
theorem am_s26  (hx : p.tables.exec = Jvm.exec) (hb : c.code = cc) (hg : ∀ x y, g x = g y → x = y) (hd : decode cc pc = .ok (.iushr, 1)) (h : am_i2 (fun x y => (x.toUInt32 >>> (y.toUInt32 &&& Int32.toUInt32 31)).toInt32) lv st (pc + 1) = some (pc2, lv2, st2)) (hl : lv_has ls nL (lv.map (am_l g))) (K : ∀ ls2 : Array Slot, lv_has ls2 nL (lv2.map (am_l g)) → W p l e R s m args below meth c H locs cells slots Q (F0 m pc2 ls2 (st2.map (am_v g)))) : W p l e R s m args below meth c H locs cells slots Q (F0 m pc ls (st.map (am_v g))) := by
  unfold am_i2 at h
  split at h
  · cases h
    exact lv_iushr hx hb hd rfl (K ls hl)
  · cases h
theorem am_s27  (hx : p.tables.exec = Jvm.exec) (hb : c.code = cc) (hg : ∀ x y, g x = g y → x = y) (hd : decode cc pc = .ok (.idiv, 1)) (h : am_i3 (fun x y => x / y) lv st (pc + 1) = some (pc2, lv2, st2)) (hl : lv_has ls nL (lv.map (am_l g))) (K : ∀ ls2 : Array Slot, lv_has ls2 nL (lv2.map (am_l g)) → W p l e R s m args below meth c H locs cells slots Q (F0 m pc2 ls2 (st2.map (am_v g)))) : W p l e R s m args below meth c H locs cells slots Q (F0 m pc ls (st.map (am_v g))) := by
  unfold am_i3 at h
  split at h
  · split at h
    · cases h
    · rename_i hn
      cases h
      exact lv_idiv hx hb hd hn (K ls hl)
  · cases h
theorem am_s28  (hx : p.tables.exec = Jvm.exec) (hb : c.code = cc) (hg : ∀ x y, g x = g y → x = y) (hd : decode cc pc = .ok (.irem, 1)) (h : am_i3 (fun x y => x - x / y * y) lv st (pc + 1) = some (pc2, lv2, st2)) (hl : lv_has ls nL (lv.map (am_l g))) (K : ∀ ls2 : Array Slot, lv_has ls2 nL (lv2.map (am_l g)) → W p l e R s m args below meth c H locs cells slots Q (F0 m pc2 ls2 (st2.map (am_v g)))) : W p l e R s m args below meth c H locs cells slots Q (F0 m pc ls (st.map (am_v g))) := by
  unfold am_i3 at h
  split at h
  · split at h
    · cases h
    · rename_i hn
      cases h
      exact lv_irem hx hb hd hn (K ls hl)
  · cases h
theorem am_s29  (hx : p.tables.exec = Jvm.exec) (hb : c.code = cc) (hg : ∀ x y, g x = g y → x = y) (hd : decode cc pc = .ok (.ineg, 1)) (h : am_i1 (fun x => -x) lv st (pc + 1) = some (pc2, lv2, st2)) (hl : lv_has ls nL (lv.map (am_l g))) (K : ∀ ls2 : Array Slot, lv_has ls2 nL (lv2.map (am_l g)) → W p l e R s m args below meth c H locs cells slots Q (F0 m pc2 ls2 (st2.map (am_v g)))) : W p l e R s m args below meth c H locs cells slots Q (F0 m pc ls (st.map (am_v g))) := by
  unfold am_i1 at h
  split at h
  · cases h
    exact lv_ineg hx hb hd (K ls hl)
  · cases h
theorem am_s30  (hx : p.tables.exec = Jvm.exec) (hb : c.code = cc) (hg : ∀ x y, g x = g y → x = y) (hd : decode cc pc = .ok (.i2b, 1)) (h : am_i1 (fun x => x.toInt8.toInt32) lv st (pc + 1) = some (pc2, lv2, st2)) (hl : lv_has ls nL (lv.map (am_l g))) (K : ∀ ls2 : Array Slot, lv_has ls2 nL (lv2.map (am_l g)) → W p l e R s m args below meth c H locs cells slots Q (F0 m pc2 ls2 (st2.map (am_v g)))) : W p l e R s m args below meth c H locs cells slots Q (F0 m pc ls (st.map (am_v g))) := by
  unfold am_i1 at h
  split at h
  · cases h
    exact lv_i2b hx hb hd rfl (K ls hl)
  · cases h
theorem am_s31  (hx : p.tables.exec = Jvm.exec) (hb : c.code = cc) (hg : ∀ x y, g x = g y → x = y) (hd : decode cc pc = .ok (.i2s, 1)) (h : am_i1 (fun x => x.toInt16.toInt32) lv st (pc + 1) = some (pc2, lv2, st2)) (hl : lv_has ls nL (lv.map (am_l g))) (K : ∀ ls2 : Array Slot, lv_has ls2 nL (lv2.map (am_l g)) → W p l e R s m args below meth c H locs cells slots Q (F0 m pc2 ls2 (st2.map (am_v g)))) : W p l e R s m args below meth c H locs cells slots Q (F0 m pc ls (st.map (am_v g))) := by
  unfold am_i1 at h
  split at h
  · cases h
    exact lv_i2s hx hb hd rfl (K ls hl)
  · cases h
theorem am_s32  (hx : p.tables.exec = Jvm.exec) (hb : c.code = cc) (hg : ∀ x y, g x = g y → x = y) (hd : decode cc pc = .ok (.i2c, 1)) (h : am_i1 (fun x => (x.toUInt32 % 65536).toInt32) lv st (pc + 1) = some (pc2, lv2, st2)) (hl : lv_has ls nL (lv.map (am_l g))) (K : ∀ ls2 : Array Slot, lv_has ls2 nL (lv2.map (am_l g)) → W p l e R s m args below meth c H locs cells slots Q (F0 m pc2 ls2 (st2.map (am_v g)))) : W p l e R s m args below meth c H locs cells slots Q (F0 m pc ls (st.map (am_v g))) := by
  unfold am_i1 at h
  split at h
  · cases h
    exact lv_i2c hx hb hd rfl (K ls hl)
  · cases h
theorem am_s33  (hx : p.tables.exec = Jvm.exec) (hb : c.code = cc) (hg : ∀ x y, g x = g y → x = y) (hd : decode cc pc = .ok (.ladd, 1)) (h : am_l2 (fun x y => x + y) lv st (pc + 1) = some (pc2, lv2, st2)) (hl : lv_has ls nL (lv.map (am_l g))) (K : ∀ ls2 : Array Slot, lv_has ls2 nL (lv2.map (am_l g)) → W p l e R s m args below meth c H locs cells slots Q (F0 m pc2 ls2 (st2.map (am_v g)))) : W p l e R s m args below meth c H locs cells slots Q (F0 m pc ls (st.map (am_v g))) := by
  unfold am_l2 at h
  split at h
  · cases h
    exact lv_ladd hx hb hd (K ls hl)
  · cases h
theorem am_s34  (hx : p.tables.exec = Jvm.exec) (hb : c.code = cc) (hg : ∀ x y, g x = g y → x = y) (hd : decode cc pc = .ok (.lsub, 1)) (h : am_l2 (fun x y => x - y) lv st (pc + 1) = some (pc2, lv2, st2)) (hl : lv_has ls nL (lv.map (am_l g))) (K : ∀ ls2 : Array Slot, lv_has ls2 nL (lv2.map (am_l g)) → W p l e R s m args below meth c H locs cells slots Q (F0 m pc2 ls2 (st2.map (am_v g)))) : W p l e R s m args below meth c H locs cells slots Q (F0 m pc ls (st.map (am_v g))) := by
  unfold am_l2 at h
  split at h
  · cases h
    exact lv_lsub hx hb hd (K ls hl)
  · cases h
theorem am_s35  (hx : p.tables.exec = Jvm.exec) (hb : c.code = cc) (hg : ∀ x y, g x = g y → x = y) (hd : decode cc pc = .ok (.lmul, 1)) (h : am_l2 (fun x y => x * y) lv st (pc + 1) = some (pc2, lv2, st2)) (hl : lv_has ls nL (lv.map (am_l g))) (K : ∀ ls2 : Array Slot, lv_has ls2 nL (lv2.map (am_l g)) → W p l e R s m args below meth c H locs cells slots Q (F0 m pc2 ls2 (st2.map (am_v g)))) : W p l e R s m args below meth c H locs cells slots Q (F0 m pc ls (st.map (am_v g))) := by
  unfold am_l2 at h
  split at h
  · cases h
    exact lv_lmul hx hb hd (K ls hl)
  · cases h
theorem am_s36  (hx : p.tables.exec = Jvm.exec) (hb : c.code = cc) (hg : ∀ x y, g x = g y → x = y) (hd : decode cc pc = .ok (.land, 1)) (h : am_l2 (fun x y => x &&& y) lv st (pc + 1) = some (pc2, lv2, st2)) (hl : lv_has ls nL (lv.map (am_l g))) (K : ∀ ls2 : Array Slot, lv_has ls2 nL (lv2.map (am_l g)) → W p l e R s m args below meth c H locs cells slots Q (F0 m pc2 ls2 (st2.map (am_v g)))) : W p l e R s m args below meth c H locs cells slots Q (F0 m pc ls (st.map (am_v g))) := by
  unfold am_l2 at h
  split at h
  · cases h
    exact lv_land hx hb hd (K ls hl)
  · cases h
theorem am_s37  (hx : p.tables.exec = Jvm.exec) (hb : c.code = cc) (hg : ∀ x y, g x = g y → x = y) (hd : decode cc pc = .ok (.lor, 1)) (h : am_l2 (fun x y => x ||| y) lv st (pc + 1) = some (pc2, lv2, st2)) (hl : lv_has ls nL (lv.map (am_l g))) (K : ∀ ls2 : Array Slot, lv_has ls2 nL (lv2.map (am_l g)) → W p l e R s m args below meth c H locs cells slots Q (F0 m pc2 ls2 (st2.map (am_v g)))) : W p l e R s m args below meth c H locs cells slots Q (F0 m pc ls (st.map (am_v g))) := by
  unfold am_l2 at h
  split at h
  · cases h
    exact lv_lor hx hb hd (K ls hl)
  · cases h
theorem am_s38  (hx : p.tables.exec = Jvm.exec) (hb : c.code = cc) (hg : ∀ x y, g x = g y → x = y) (hd : decode cc pc = .ok (.lxor, 1)) (h : am_l2 (fun x y => x ^^^ y) lv st (pc + 1) = some (pc2, lv2, st2)) (hl : lv_has ls nL (lv.map (am_l g))) (K : ∀ ls2 : Array Slot, lv_has ls2 nL (lv2.map (am_l g)) → W p l e R s m args below meth c H locs cells slots Q (F0 m pc2 ls2 (st2.map (am_v g)))) : W p l e R s m args below meth c H locs cells slots Q (F0 m pc ls (st.map (am_v g))) := by
  unfold am_l2 at h
  split at h
  · cases h
    exact lv_lxor hx hb hd (K ls hl)
  · cases h
theorem am_s39  (hx : p.tables.exec = Jvm.exec) (hb : c.code = cc) (hg : ∀ x y, g x = g y → x = y) (hd : decode cc pc = .ok (.lneg, 1)) (h : am_l1 (fun x => -x) lv st (pc + 1) = some (pc2, lv2, st2)) (hl : lv_has ls nL (lv.map (am_l g))) (K : ∀ ls2 : Array Slot, lv_has ls2 nL (lv2.map (am_l g)) → W p l e R s m args below meth c H locs cells slots Q (F0 m pc2 ls2 (st2.map (am_v g)))) : W p l e R s m args below meth c H locs cells slots Q (F0 m pc ls (st.map (am_v g))) := by
  unfold am_l1 at h
  split at h
  · cases h
    exact lv_lneg hx hb hd (K ls hl)
  · cases h
theorem am_s40  (hx : p.tables.exec = Jvm.exec) (hb : c.code = cc) (hg : ∀ x y, g x = g y → x = y) (hd : decode cc pc = .ok (.lshl, 1)) (h : am_ls (fun x y => x <<< (y.toInt64 &&& 63)) lv st (pc + 1) = some (pc2, lv2, st2)) (hl : lv_has ls nL (lv.map (am_l g))) (K : ∀ ls2 : Array Slot, lv_has ls2 nL (lv2.map (am_l g)) → W p l e R s m args below meth c H locs cells slots Q (F0 m pc2 ls2 (st2.map (am_v g)))) : W p l e R s m args below meth c H locs cells slots Q (F0 m pc ls (st.map (am_v g))) := by
  unfold am_ls at h
  split at h
  · cases h
    exact lv_lshl hx hb hd rfl (K ls hl)
  · cases h
theorem am_s41  (hx : p.tables.exec = Jvm.exec) (hb : c.code = cc) (hg : ∀ x y, g x = g y → x = y) (hd : decode cc pc = .ok (.lshr, 1)) (h : am_ls (fun x y => x >>> (y.toInt64 &&& 63)) lv st (pc + 1) = some (pc2, lv2, st2)) (hl : lv_has ls nL (lv.map (am_l g))) (K : ∀ ls2 : Array Slot, lv_has ls2 nL (lv2.map (am_l g)) → W p l e R s m args below meth c H locs cells slots Q (F0 m pc2 ls2 (st2.map (am_v g)))) : W p l e R s m args below meth c H locs cells slots Q (F0 m pc ls (st.map (am_v g))) := by
  unfold am_ls at h
  split at h
  · cases h
    exact lv_lshr hx hb hd rfl (K ls hl)
  · cases h
theorem am_s42  (hx : p.tables.exec = Jvm.exec) (hb : c.code = cc) (hg : ∀ x y, g x = g y → x = y) (hd : decode cc pc = .ok (.lushr, 1)) (h : am_ls (fun x y => (x.toUInt64 >>> (y.toInt64.toUInt64 &&& Int64.toUInt64 63)).toInt64) lv st (pc + 1) = some (pc2, lv2, st2)) (hl : lv_has ls nL (lv.map (am_l g))) (K : ∀ ls2 : Array Slot, lv_has ls2 nL (lv2.map (am_l g)) → W p l e R s m args below meth c H locs cells slots Q (F0 m pc2 ls2 (st2.map (am_v g)))) : W p l e R s m args below meth c H locs cells slots Q (F0 m pc ls (st.map (am_v g))) := by
  unfold am_ls at h
  split at h
  · cases h
    exact lv_lushr hx hb hd rfl (K ls hl)
  · cases h
theorem am_s43  (hx : p.tables.exec = Jvm.exec) (hb : c.code = cc) (hg : ∀ x y, g x = g y → x = y) (hd : decode cc pc = .ok (.i2l, 1)) (h : (match st with | .int x :: r => some (pc + 1, lv, .long x.toInt64 :: r) | _ => none) = some (pc2, lv2, st2)) (hl : lv_has ls nL (lv.map (am_l g))) (K : ∀ ls2 : Array Slot, lv_has ls2 nL (lv2.map (am_l g)) → W p l e R s m args below meth c H locs cells slots Q (F0 m pc2 ls2 (st2.map (am_v g)))) : W p l e R s m args below meth c H locs cells slots Q (F0 m pc ls (st.map (am_v g))) := by
  split at h
  · cases h
    exact lv_i2l hx hb hd rfl (K ls hl)
  · cases h
theorem am_s44  (hx : p.tables.exec = Jvm.exec) (hb : c.code = cc) (hg : ∀ x y, g x = g y → x = y) (hd : decode cc pc = .ok (.l2i, 1)) (h : (match st with | .long x :: r => some (pc + 1, lv, .int x.toInt32 :: r) | _ => none) = some (pc2, lv2, st2)) (hl : lv_has ls nL (lv.map (am_l g))) (K : ∀ ls2 : Array Slot, lv_has ls2 nL (lv2.map (am_l g)) → W p l e R s m args below meth c H locs cells slots Q (F0 m pc2 ls2 (st2.map (am_v g)))) : W p l e R s m args below meth c H locs cells slots Q (F0 m pc ls (st.map (am_v g))) := by
  split at h
  · cases h
    exact lv_l2i hx hb hd rfl (K ls hl)
  · cases h
theorem am_s45  (hx : p.tables.exec = Jvm.exec) (hb : c.code = cc) (hg : ∀ x y, g x = g y → x = y) (hd : decode cc pc = .ok (.lcmp, 1)) (h : (match st with | .long y :: .long x :: r => some (pc + 1, lv, .int (lg_cmp x y) :: r) | _ => none) = some (pc2, lv2, st2)) (hl : lv_has ls nL (lv.map (am_l g))) (K : ∀ ls2 : Array Slot, lv_has ls2 nL (lv2.map (am_l g)) → W p l e R s m args below meth c H locs cells slots Q (F0 m pc2 ls2 (st2.map (am_v g)))) : W p l e R s m args below meth c H locs cells slots Q (F0 m pc ls (st.map (am_v g))) := by
  split at h
  · cases h
    exact W.lcmp hx hb hd (K ls hl)
  · cases h
theorem am_s46  (hx : p.tables.exec = Jvm.exec) (hb : c.code = cc) (hg : ∀ x y, g x = g y → x = y) (hd : decode cc pc = .ok (.dup, 1)) (h : (match st with | a :: r => if a.category = 1 then some (pc + 1, lv, a :: a :: r) else none | _ => none) = some (pc2, lv2, st2)) (hl : lv_has ls nL (lv.map (am_l g))) (K : ∀ ls2 : Array Slot, lv_has ls2 nL (lv2.map (am_l g)) → W p l e R s m args below meth c H locs cells slots Q (F0 m pc2 ls2 (st2.map (am_v g)))) : W p l e R s m args below meth c H locs cells slots Q (F0 m pc ls (st.map (am_v g))) := by
  split at h
  · split at h
    · rename_i h1
      cases h
      exact lv_dup hx hb hd (by rw [am_v_cat]; exact h1) (K ls hl)
    · cases h
  · cases h
theorem am_s47  (hx : p.tables.exec = Jvm.exec) (hb : c.code = cc) (hg : ∀ x y, g x = g y → x = y) (hd : decode cc pc = .ok (.pop, 1)) (h : (match st with | a :: r => if a.category = 1 then some (pc + 1, lv, r) else none | _ => none) = some (pc2, lv2, st2)) (hl : lv_has ls nL (lv.map (am_l g))) (K : ∀ ls2 : Array Slot, lv_has ls2 nL (lv2.map (am_l g)) → W p l e R s m args below meth c H locs cells slots Q (F0 m pc2 ls2 (st2.map (am_v g)))) : W p l e R s m args below meth c H locs cells slots Q (F0 m pc ls (st.map (am_v g))) := by
  split at h
  · split at h
    · rename_i h1
      cases h
      exact lv_pop hx hb hd (by rw [am_v_cat]; exact h1) (K ls hl)
    · cases h
  · cases h
theorem am_s48  (hx : p.tables.exec = Jvm.exec) (hb : c.code = cc) (hg : ∀ x y, g x = g y → x = y) (hd : decode cc pc = .ok (.dup_x1, 1)) (h : (match st with | a :: b :: r => if a.category = 1 ∧ b.category = 1 then some (pc + 1, lv, a :: b :: a :: r) else none | _ => none) = some (pc2, lv2, st2)) (hl : lv_has ls nL (lv.map (am_l g))) (K : ∀ ls2 : Array Slot, lv_has ls2 nL (lv2.map (am_l g)) → W p l e R s m args below meth c H locs cells slots Q (F0 m pc2 ls2 (st2.map (am_v g)))) : W p l e R s m args below meth c H locs cells slots Q (F0 m pc ls (st.map (am_v g))) := by
  split at h
  · split at h
    · rename_i h1
      cases h
      exact lv_dup_x1 hx hb hd (by rw [am_v_cat]; exact h1.1) (by rw [am_v_cat]; exact h1.2) (K ls hl)
    · cases h
  · cases h
theorem am_s49  (hx : p.tables.exec = Jvm.exec) (hb : c.code = cc) (hg : ∀ x y, g x = g y → x = y) (hd : decode cc pc = .ok (.dup2, 1)) (h : (match st with | a :: b :: r => if a.category = 1 ∧ b.category = 1 then some (pc + 1, lv, a :: b :: a :: b :: r) else none | _ => none) = some (pc2, lv2, st2)) (hl : lv_has ls nL (lv.map (am_l g))) (K : ∀ ls2 : Array Slot, lv_has ls2 nL (lv2.map (am_l g)) → W p l e R s m args below meth c H locs cells slots Q (F0 m pc2 ls2 (st2.map (am_v g)))) : W p l e R s m args below meth c H locs cells slots Q (F0 m pc ls (st.map (am_v g))) := by
  split at h
  · split at h
    · rename_i h1
      cases h
      exact lv_dup2_11 hx hb hd (by rw [am_v_cat]; exact h1.1) (by rw [am_v_cat]; exact h1.2) (K ls hl)
    · cases h
  · cases h
theorem am_s50 {off : Int} (hx : p.tables.exec = Jvm.exec) (hb : c.code = cc) (hg : ∀ x y, g x = g y → x = y) (hd : decode cc pc = .ok (.goto off, 3)) (h : (match am_jp pc off with | some t => some (t, lv, st) | none => none) = some (pc2, lv2, st2)) (hl : lv_has ls nL (lv.map (am_l g))) (K : ∀ ls2 : Array Slot, lv_has ls2 nL (lv2.map (am_l g)) → W p l e R s m args below meth c H locs cells slots Q (F0 m pc2 ls2 (st2.map (am_v g)))) : W p l e R s m args below meth c H locs cells slots Q (F0 m pc ls (st.map (am_v g))) := by
  split at h
  · rename_i t ht
    cases h
    exact lv_goto hx hb hd (am_jp_ok ht) (K ls hl)
  · cases h
theorem am_s51 {off : Int} (hx : p.tables.exec = Jvm.exec) (hb : c.code = cc) (hg : ∀ x y, g x = g y → x = y) (hd : decode cc pc = .ok (.ifCond .eq off, 3)) (h : (match st, am_jp pc off with | .int x :: r, some t => if x = 0 then some (t, lv, r) else some (pc + 3, lv, r) | _, _ => none) = some (pc2, lv2, st2)) (hl : lv_has ls nL (lv.map (am_l g))) (K : ∀ ls2 : Array Slot, lv_has ls2 nL (lv2.map (am_l g)) → W p l e R s m args below meth c H locs cells slots Q (F0 m pc2 ls2 (st2.map (am_v g)))) : W p l e R s m args below meth c H locs cells slots Q (F0 m pc ls (st.map (am_v g))) := by
  split at h
  · rename_i x r t ht
    refine lv_if_eq hx hb hd (am_jp_ok ht) (fun q => ?_) (fun q => ?_)
    · rw [if_pos q] at h; cases h; exact K ls hl
    · rw [if_neg q] at h; cases h; exact K ls hl
  · cases h
theorem am_s52 {off : Int} (hx : p.tables.exec = Jvm.exec) (hb : c.code = cc) (hg : ∀ x y, g x = g y → x = y) (hd : decode cc pc = .ok (.ifCond .ne off, 3)) (h : (match st, am_jp pc off with | .int x :: r, some t => if x = 0 then some (pc + 3, lv, r) else some (t, lv, r) | _, _ => none) = some (pc2, lv2, st2)) (hl : lv_has ls nL (lv.map (am_l g))) (K : ∀ ls2 : Array Slot, lv_has ls2 nL (lv2.map (am_l g)) → W p l e R s m args below meth c H locs cells slots Q (F0 m pc2 ls2 (st2.map (am_v g)))) : W p l e R s m args below meth c H locs cells slots Q (F0 m pc ls (st.map (am_v g))) := by
  split at h
  · rename_i x r t ht
    refine lv_if_ne hx hb hd (am_jp_ok ht) (fun q => ?_) (fun q => ?_)
    · rw [if_neg q] at h; cases h; exact K ls hl
    · rw [if_pos q] at h; cases h; exact K ls hl
  · cases h
theorem am_s53 {off : Int} (hx : p.tables.exec = Jvm.exec) (hb : c.code = cc) (hg : ∀ x y, g x = g y → x = y) (hd : decode cc pc = .ok (.ifCond .lt off, 3)) (h : (match st, am_jp pc off with | .int x :: r, some t => if x < 0 then some (t, lv, r) else some (pc + 3, lv, r) | _, _ => none) = some (pc2, lv2, st2)) (hl : lv_has ls nL (lv.map (am_l g))) (K : ∀ ls2 : Array Slot, lv_has ls2 nL (lv2.map (am_l g)) → W p l e R s m args below meth c H locs cells slots Q (F0 m pc2 ls2 (st2.map (am_v g)))) : W p l e R s m args below meth c H locs cells slots Q (F0 m pc ls (st.map (am_v g))) := by
  split at h
  · rename_i x r t ht
    refine lv_if_lt hx hb hd (am_jp_ok ht) (fun q => ?_) (fun q => ?_)
    · rw [if_pos q] at h; cases h; exact K ls hl
    · rw [if_neg q] at h; cases h; exact K ls hl
  · cases h
theorem am_s54 {off : Int} (hx : p.tables.exec = Jvm.exec) (hb : c.code = cc) (hg : ∀ x y, g x = g y → x = y) (hd : decode cc pc = .ok (.ifCond .ge off, 3)) (h : (match st, am_jp pc off with | .int x :: r, some t => if 0 ≤ x then some (t, lv, r) else some (pc + 3, lv, r) | _, _ => none) = some (pc2, lv2, st2)) (hl : lv_has ls nL (lv.map (am_l g))) (K : ∀ ls2 : Array Slot, lv_has ls2 nL (lv2.map (am_l g)) → W p l e R s m args below meth c H locs cells slots Q (F0 m pc2 ls2 (st2.map (am_v g)))) : W p l e R s m args below meth c H locs cells slots Q (F0 m pc ls (st.map (am_v g))) := by
  split at h
  · rename_i x r t ht
    refine lv_if_ge hx hb hd (am_jp_ok ht) (fun q => ?_) (fun q => ?_)
    · rw [if_pos q] at h; cases h; exact K ls hl
    · rw [if_neg q] at h; cases h; exact K ls hl
  · cases h
theorem am_s55 {off : Int} (hx : p.tables.exec = Jvm.exec) (hb : c.code = cc) (hg : ∀ x y, g x = g y → x = y) (hd : decode cc pc = .ok (.ifCond .gt off, 3)) (h : (match st, am_jp pc off with | .int x :: r, some t => if 0 < x then some (t, lv, r) else some (pc + 3, lv, r) | _, _ => none) = some (pc2, lv2, st2)) (hl : lv_has ls nL (lv.map (am_l g))) (K : ∀ ls2 : Array Slot, lv_has ls2 nL (lv2.map (am_l g)) → W p l e R s m args below meth c H locs cells slots Q (F0 m pc2 ls2 (st2.map (am_v g)))) : W p l e R s m args below meth c H locs cells slots Q (F0 m pc ls (st.map (am_v g))) := by
  split at h
  · rename_i x r t ht
    refine lv_if_gt hx hb hd (am_jp_ok ht) (fun q => ?_) (fun q => ?_)
    · rw [if_pos q] at h; cases h; exact K ls hl
    · rw [if_neg q] at h; cases h; exact K ls hl
  · cases h
theorem am_s56 {off : Int} (hx : p.tables.exec = Jvm.exec) (hb : c.code = cc) (hg : ∀ x y, g x = g y → x = y) (hd : decode cc pc = .ok (.ifCond .le off, 3)) (h : (match st, am_jp pc off with | .int x :: r, some t => if x ≤ 0 then some (t, lv, r) else some (pc + 3, lv, r) | _, _ => none) = some (pc2, lv2, st2)) (hl : lv_has ls nL (lv.map (am_l g))) (K : ∀ ls2 : Array Slot, lv_has ls2 nL (lv2.map (am_l g)) → W p l e R s m args below meth c H locs cells slots Q (F0 m pc2 ls2 (st2.map (am_v g)))) : W p l e R s m args below meth c H locs cells slots Q (F0 m pc ls (st.map (am_v g))) := by
  split at h
  · rename_i x r t ht
    refine lv_if_le hx hb hd (am_jp_ok ht) (fun q => ?_) (fun q => ?_)
    · rw [if_pos q] at h; cases h; exact K ls hl
    · rw [if_neg q] at h; cases h; exact K ls hl
  · cases h
theorem am_s57 {off : Int} (hx : p.tables.exec = Jvm.exec) (hb : c.code = cc) (hg : ∀ x y, g x = g y → x = y) (hd : decode cc pc = .ok (.if_icmp .eq off, 3)) (h : (match st, am_jp pc off with | .int y :: .int x :: r, some t => if x = y then some (t, lv, r) else some (pc + 3, lv, r) | _, _ => none) = some (pc2, lv2, st2)) (hl : lv_has ls nL (lv.map (am_l g))) (K : ∀ ls2 : Array Slot, lv_has ls2 nL (lv2.map (am_l g)) → W p l e R s m args below meth c H locs cells slots Q (F0 m pc2 ls2 (st2.map (am_v g)))) : W p l e R s m args below meth c H locs cells slots Q (F0 m pc ls (st.map (am_v g))) := by
  split at h
  · rename_i y x r t ht
    refine lv_icmp_eq hx hb hd (am_jp_ok ht) (fun q => ?_) (fun q => ?_)
    · rw [if_pos q] at h; cases h; exact K ls hl
    · rw [if_neg q] at h; cases h; exact K ls hl
  · cases h
theorem am_s58 {off : Int} (hx : p.tables.exec = Jvm.exec) (hb : c.code = cc) (hg : ∀ x y, g x = g y → x = y) (hd : decode cc pc = .ok (.if_icmp .ne off, 3)) (h : (match st, am_jp pc off with | .int y :: .int x :: r, some t => if x = y then some (pc + 3, lv, r) else some (t, lv, r) | _, _ => none) = some (pc2, lv2, st2)) (hl : lv_has ls nL (lv.map (am_l g))) (K : ∀ ls2 : Array Slot, lv_has ls2 nL (lv2.map (am_l g)) → W p l e R s m args below meth c H locs cells slots Q (F0 m pc2 ls2 (st2.map (am_v g)))) : W p l e R s m args below meth c H locs cells slots Q (F0 m pc ls (st.map (am_v g))) := by
  split at h
  · rename_i y x r t ht
    refine lv_icmp_ne hx hb hd (am_jp_ok ht) (fun q => ?_) (fun q => ?_)
    · rw [if_neg q] at h; cases h; exact K ls hl
    · rw [if_pos q] at h; cases h; exact K ls hl
  · cases h
theorem am_s59 {off : Int} (hx : p.tables.exec = Jvm.exec) (hb : c.code = cc) (hg : ∀ x y, g x = g y → x = y) (hd : decode cc pc = .ok (.if_icmp .lt off, 3)) (h : (match st, am_jp pc off with | .int y :: .int x :: r, some t => if x < y then some (t, lv, r) else some (pc + 3, lv, r) | _, _ => none) = some (pc2, lv2, st2)) (hl : lv_has ls nL (lv.map (am_l g))) (K : ∀ ls2 : Array Slot, lv_has ls2 nL (lv2.map (am_l g)) → W p l e R s m args below meth c H locs cells slots Q (F0 m pc2 ls2 (st2.map (am_v g)))) : W p l e R s m args below meth c H locs cells slots Q (F0 m pc ls (st.map (am_v g))) := by
  split at h
  · rename_i y x r t ht
    refine lv_icmp_lt hx hb hd (am_jp_ok ht) (fun q => ?_) (fun q => ?_)
    · rw [if_pos q] at h; cases h; exact K ls hl
    · rw [if_neg q] at h; cases h; exact K ls hl
  · cases h
theorem am_s60 {off : Int} (hx : p.tables.exec = Jvm.exec) (hb : c.code = cc) (hg : ∀ x y, g x = g y → x = y) (hd : decode cc pc = .ok (.if_icmp .ge off, 3)) (h : (match st, am_jp pc off with | .int y :: .int x :: r, some t => if y ≤ x then some (t, lv, r) else some (pc + 3, lv, r) | _, _ => none) = some (pc2, lv2, st2)) (hl : lv_has ls nL (lv.map (am_l g))) (K : ∀ ls2 : Array Slot, lv_has ls2 nL (lv2.map (am_l g)) → W p l e R s m args below meth c H locs cells slots Q (F0 m pc2 ls2 (st2.map (am_v g)))) : W p l e R s m args below meth c H locs cells slots Q (F0 m pc ls (st.map (am_v g))) := by
  split at h
  · rename_i y x r t ht
    refine lv_icmp_ge hx hb hd (am_jp_ok ht) (fun q => ?_) (fun q => ?_)
    · rw [if_pos q] at h; cases h; exact K ls hl
    · rw [if_neg q] at h; cases h; exact K ls hl
  · cases h
theorem am_s61 {off : Int} (hx : p.tables.exec = Jvm.exec) (hb : c.code = cc) (hg : ∀ x y, g x = g y → x = y) (hd : decode cc pc = .ok (.if_icmp .gt off, 3)) (h : (match st, am_jp pc off with | .int y :: .int x :: r, some t => if y < x then some (t, lv, r) else some (pc + 3, lv, r) | _, _ => none) = some (pc2, lv2, st2)) (hl : lv_has ls nL (lv.map (am_l g))) (K : ∀ ls2 : Array Slot, lv_has ls2 nL (lv2.map (am_l g)) → W p l e R s m args below meth c H locs cells slots Q (F0 m pc2 ls2 (st2.map (am_v g)))) : W p l e R s m args below meth c H locs cells slots Q (F0 m pc ls (st.map (am_v g))) := by
  split at h
  · rename_i y x r t ht
    refine lv_icmp_gt hx hb hd (am_jp_ok ht) (fun q => ?_) (fun q => ?_)
    · rw [if_pos q] at h; cases h; exact K ls hl
    · rw [if_neg q] at h; cases h; exact K ls hl
  · cases h
theorem am_s62 {off : Int} (hx : p.tables.exec = Jvm.exec) (hb : c.code = cc) (hg : ∀ x y, g x = g y → x = y) (hd : decode cc pc = .ok (.if_icmp .le off, 3)) (h : (match st, am_jp pc off with | .int y :: .int x :: r, some t => if x ≤ y then some (t, lv, r) else some (pc + 3, lv, r) | _, _ => none) = some (pc2, lv2, st2)) (hl : lv_has ls nL (lv.map (am_l g))) (K : ∀ ls2 : Array Slot, lv_has ls2 nL (lv2.map (am_l g)) → W p l e R s m args below meth c H locs cells slots Q (F0 m pc2 ls2 (st2.map (am_v g)))) : W p l e R s m args below meth c H locs cells slots Q (F0 m pc ls (st.map (am_v g))) := by
  split at h
  · rename_i y x r t ht
    refine lv_icmp_le hx hb hd (am_jp_ok ht) (fun q => ?_) (fun q => ?_)
    · rw [if_pos q] at h; cases h; exact K ls hl
    · rw [if_neg q] at h; cases h; exact K ls hl
  · cases h
theorem am_s63 {off : Int} (hx : p.tables.exec = Jvm.exec) (hb : c.code = cc) (hg : ∀ x y, g x = g y → x = y) (hd : decode cc pc = .ok (.ifnull off, 3)) (h : (match st, am_jp pc off with | .null :: r, some t => some (t, lv, r) | .ref _ :: r, _ => some (pc + 3, lv, r) | _, _ => none) = some (pc2, lv2, st2)) (hl : lv_has ls nL (lv.map (am_l g))) (K : ∀ ls2 : Array Slot, lv_has ls2 nL (lv2.map (am_l g)) → W p l e R s m args below meth c H locs cells slots Q (F0 m pc2 ls2 (st2.map (am_v g)))) : W p l e R s m args below meth c H locs cells slots Q (F0 m pc ls (st.map (am_v g))) := by
  split at h
  · rename_i r t ht
    cases h
    exact lv_ifnullN hx hb hd (am_jp_ok ht) (K ls hl)
  · cases h
    exact lv_ifnull hx hb hd (K ls hl)
  · cases h
theorem am_s64 {off : Int} (hx : p.tables.exec = Jvm.exec) (hb : c.code = cc) (hg : ∀ x y, g x = g y → x = y) (hd : decode cc pc = .ok (.ifnonnull off, 3)) (h : (match st, am_jp pc off with | .ref _ :: r, some t => some (t, lv, r) | .null :: r, _ => some (pc + 3, lv, r) | _, _ => none) = some (pc2, lv2, st2)) (hl : lv_has ls nL (lv.map (am_l g))) (K : ∀ ls2 : Array Slot, lv_has ls2 nL (lv2.map (am_l g)) → W p l e R s m args below meth c H locs cells slots Q (F0 m pc2 ls2 (st2.map (am_v g)))) : W p l e R s m args below meth c H locs cells slots Q (F0 m pc ls (st.map (am_v g))) := by
  split at h
  · rename_i x r t ht
    cases h
    exact lv_ifnonnull hx hb hd (am_jp_ok ht) (K ls hl)
  · cases h
    exact lv_ifnonnullN hx hb hd (K ls hl)
  · cases h
theorem am_s65 {off : Int} (hx : p.tables.exec = Jvm.exec) (hb : c.code = cc) (hg : ∀ x y, g x = g y → x = y) (hd : decode cc pc = .ok (.if_acmp .eq off, 3)) (h : (match st, am_jp pc off with | .ref y :: .ref x :: r, some t => if x = y then some (t, lv, r) else some (pc + 3, lv, r) | .null :: .ref _ :: r, some t => some (pc + 3, lv, r) | .ref _ :: .null :: r, some t => some (pc + 3, lv, r) | .null :: .null :: r, some t => some (t, lv, r) | _, _ => none) = some (pc2, lv2, st2)) (hl : lv_has ls nL (lv.map (am_l g))) (K : ∀ ls2 : Array Slot, lv_has ls2 nL (lv2.map (am_l g)) → W p l e R s m args below meth c H locs cells slots Q (F0 m pc2 ls2 (st2.map (am_v g)))) : W p l e R s m args below meth c H locs cells slots Q (F0 m pc ls (st.map (am_v g))) := by
  split at h
  · rename_i y x r t ht
    refine lv_acmp_eq (rx := some (g x)) (ry := some (g y)) hx hb hd (am_jp_ok ht) (fun q => ?_) (fun q => ?_)
    · rw [if_pos (hg x y (Option.some.inj q))] at h; cases h; exact K ls hl
    · rw [if_neg (fun z => q (by rw [z]))] at h; cases h; exact K ls hl
  · rename_i x r t ht
    cases h
    refine lv_acmp_eq (rx := some (g x)) (ry := none) hx hb hd (am_jp_ok ht) (fun q => by cases q) (fun q => K ls hl)
  · rename_i y r t ht
    cases h
    refine lv_acmp_eq (rx := none) (ry := some (g y)) hx hb hd (am_jp_ok ht) (fun q => by cases q) (fun q => K ls hl)
  · rename_i r t ht
    cases h
    refine lv_acmp_eq (rx := none) (ry := none) hx hb hd (am_jp_ok ht) (fun q => K ls hl) (fun q => absurd rfl q)
  · cases h
theorem am_s66 {off : Int} (hx : p.tables.exec = Jvm.exec) (hb : c.code = cc) (hg : ∀ x y, g x = g y → x = y) (hd : decode cc pc = .ok (.if_acmp .ne off, 3)) (h : (match st, am_jp pc off with | .ref y :: .ref x :: r, some t => if x = y then some (pc + 3, lv, r) else some (t, lv, r) | .null :: .ref _ :: r, some t => some (t, lv, r) | .ref _ :: .null :: r, some t => some (t, lv, r) | .null :: .null :: r, some t => some (pc + 3, lv, r) | _, _ => none) = some (pc2, lv2, st2)) (hl : lv_has ls nL (lv.map (am_l g))) (K : ∀ ls2 : Array Slot, lv_has ls2 nL (lv2.map (am_l g)) → W p l e R s m args below meth c H locs cells slots Q (F0 m pc2 ls2 (st2.map (am_v g)))) : W p l e R s m args below meth c H locs cells slots Q (F0 m pc ls (st.map (am_v g))) := by
  split at h
  · rename_i y x r t ht
    refine lv_acmp_ne (rx := some (g x)) (ry := some (g y)) hx hb hd (am_jp_ok ht) (fun q => ?_) (fun q => ?_)
    · rw [if_neg (fun z => q (by rw [z]))] at h; cases h; exact K ls hl
    · rw [if_pos (hg x y (Option.some.inj q))] at h; cases h; exact K ls hl
  · rename_i x r t ht
    cases h
    refine lv_acmp_ne (rx := some (g x)) (ry := none) hx hb hd (am_jp_ok ht) (fun q => K ls hl) (fun q => by cases q)
  · rename_i y r t ht
    cases h
    refine lv_acmp_ne (rx := none) (ry := some (g y)) hx hb hd (am_jp_ok ht) (fun q => K ls hl) (fun q => by cases q)
  · rename_i r t ht
    cases h
    refine lv_acmp_ne (rx := none) (ry := none) hx hb hd (am_jp_ok ht) (fun q => absurd rfl q) (fun q => K ls hl)
  · cases h
theorem am_s67 {d : Int} {lo : Int} {hi : Int} {offs : Array Int} {ln : Nat} (hx : p.tables.exec = Jvm.exec) (hb : c.code = cc) (hg : ∀ x y, g x = g y → x = y) (hd : decode cc pc = .ok (.tableswitch d lo hi offs, ln)) (h : (match st with | .int x :: r => if x.toInt < lo ∨ hi < x.toInt then (match am_jp pc d with | some t => some (t, lv, r) | none => none) else (match offs[(x.toInt - lo).toNat]? with | some off => (match am_jp pc off with | some t => some (t, lv, r) | none => none) | none => none) | _ => none) = some (pc2, lv2, st2)) (hl : lv_has ls nL (lv.map (am_l g))) (K : ∀ ls2 : Array Slot, lv_has ls2 nL (lv2.map (am_l g)) → W p l e R s m args below meth c H locs cells slots Q (F0 m pc2 ls2 (st2.map (am_v g)))) : W p l e R s m args below meth c H locs cells slots Q (F0 m pc ls (st.map (am_v g))) := by
  split at h
  · split at h
    · rename_i q
      split at h
      · rename_i t ht
        cases h
        exact lv_tableOut hx hb hd q (am_jp_ok ht) (K ls hl)
      · cases h
    · rename_i q
      split at h
      · rename_i off ho
        split at h
        · rename_i t ht
          cases h
          exact lv_tableIn hx hb hd (fun z => q (Or.inl z)) (fun z => q (Or.inr z)) ho (am_jp_ok ht) (K ls hl)
        · cases h
      · cases h
  · cases h
theorem am_s68 {d : Int} {ps : Array (Int × Int)} {ln : Nat} (hx : p.tables.exec = Jvm.exec) (hb : c.code = cc) (hg : ∀ x y, g x = g y → x = y) (hd : decode cc pc = .ok (.lookupswitch d ps, ln)) (h : (match st with | .int x :: r => if (ps.toList.zip (ps.toList.drop 1)).all (fun q => decide (q.1.1 < q.2.1)) = true then (match am_jp pc (Op.lookupswitch.offset ps.toList d x.toInt) with | some t => some (t, lv, r) | none => none) else none | _ => none) = some (pc2, lv2, st2)) (hl : lv_has ls nL (lv.map (am_l g))) (K : ∀ ls2 : Array Slot, lv_has ls2 nL (lv2.map (am_l g)) → W p l e R s m args below meth c H locs cells slots Q (F0 m pc2 ls2 (st2.map (am_v g)))) : W p l e R s m args below meth c H locs cells slots Q (F0 m pc ls (st.map (am_v g))) := by
  split at h
  · split at h
    · rename_i q
      split at h
      · rename_i t ht
        cases h
        exact lv_lookup hx hb hd q rfl (am_jp_ok ht) (K ls hl)
      · cases h
    · cases h
  · cases h
end AM1
theorem am_le {cc : ByteArray} {pc len n : Nat} {i : Instr} (hk : am_ln i = 0 ∨ am_ln i = len) (h0 : am_ln i = n) (hn : n ≠ 0) (hd : decode cc pc = .ok (i, len)) : decode cc pc = .ok (i, n) := by
  rcases hk with h | h
  · exact absurd (h0.symm.trans h) hn
  · rw [hd, ← h0, h]
theorem am_pu_ok {p : Program} {l : Launch} {e : Env} {R : Room} {s : State} {m : MethodId} {args : Array Value} {below : List Frame} {meth : Method} {c : Code} {H : Heap} {locs : List Loc} {cells slots : Nat} {Q : State → Prop} {cc : ByteArray} {pc nL pc2 : Nat} {ls : Array Slot} {lv lv2 : List (Nat × Value)} {st st2 : List Value} {g : Nat → Nat} {i : Instr} {len : Nat} (hx : p.tables.exec = Jvm.exec) (hb : c.code = cc) (hg : ∀ x y, g x = g y → x = y) (hd : decode cc pc = .ok (i, len)) (hk : am_ln i = 0 ∨ am_ln i = len) (h : am_pu nL i pc lv st = some (pc2, lv2, st2)) (hl : lv_has ls nL (lv.map (am_l g))) (K : ∀ ls2 : Array Slot, lv_has ls2 nL (lv2.map (am_l g)) → W p l e R s m args below meth c H locs cells slots Q (F0 m pc2 ls2 (st2.map (am_v g)))) : W p l e R s m args below meth c H locs cells slots Q (F0 m pc ls (st.map (am_v g))) := by
  match i, hd, hk, h with
  | .iconst n, hd, hk, h => exact am_s0 hx hb hg (am_le (n := 1) hk rfl (by decide) hd) h hl K
  | .bipush n, hd, hk, h => exact am_s1 hx hb hg (am_le (n := 2) hk rfl (by decide) hd) h hl K
  | .sipush n, hd, hk, h => exact am_s2 hx hb hg (am_le (n := 3) hk rfl (by decide) hd) h hl K
  | .lconst n, hd, hk, h => exact am_s3 hx hb hg (am_le (n := 1) hk rfl (by decide) hd) h hl K
  | .aconst_null, hd, hk, h => exact am_s4 hx hb hg (am_le (n := 1) hk rfl (by decide) hd) h hl K
  | .iload_n k, hd, hk, h => exact am_s5 hx hb hg (am_le (n := 1) hk rfl (by decide) hd) h hl K
  | .iload k, hd, hk, h => exact am_s6 hx hb hg (am_le (n := 2) hk rfl (by decide) hd) h hl K
  | .lload_n k, hd, hk, h => exact am_s7 hx hb hg (am_le (n := 1) hk rfl (by decide) hd) h hl K
  | .lload k, hd, hk, h => exact am_s8 hx hb hg (am_le (n := 2) hk rfl (by decide) hd) h hl K
  | .aload_n k, hd, hk, h => exact am_s9 hx hb hg (am_le (n := 1) hk rfl (by decide) hd) h hl K
  | .aload k, hd, hk, h => exact am_s10 hx hb hg (am_le (n := 2) hk rfl (by decide) hd) h hl K
  | .istore_n k, hd, hk, h => exact am_s11 hx hb hg (am_le (n := 1) hk rfl (by decide) hd) h hl K
  | .istore k, hd, hk, h => exact am_s12 hx hb hg (am_le (n := 2) hk rfl (by decide) hd) h hl K
  | .lstore_n k, hd, hk, h => exact am_s13 hx hb hg (am_le (n := 1) hk rfl (by decide) hd) h hl K
  | .lstore k, hd, hk, h => exact am_s14 hx hb hg (am_le (n := 2) hk rfl (by decide) hd) h hl K
  | .astore_n k, hd, hk, h => exact am_s15 hx hb hg (am_le (n := 1) hk rfl (by decide) hd) h hl K
  | .astore k, hd, hk, h => exact am_s16 hx hb hg (am_le (n := 2) hk rfl (by decide) hd) h hl K
  | .iinc k n, hd, hk, h => exact am_s17 hx hb hg (am_le (n := 3) hk rfl (by decide) hd) h hl K
  | .iadd, hd, hk, h => exact am_s18 hx hb hg (am_le (n := 1) hk rfl (by decide) hd) h hl K
  | .isub, hd, hk, h => exact am_s19 hx hb hg (am_le (n := 1) hk rfl (by decide) hd) h hl K
  | .imul, hd, hk, h => exact am_s20 hx hb hg (am_le (n := 1) hk rfl (by decide) hd) h hl K
  | .iand, hd, hk, h => exact am_s21 hx hb hg (am_le (n := 1) hk rfl (by decide) hd) h hl K
  | .ior, hd, hk, h => exact am_s22 hx hb hg (am_le (n := 1) hk rfl (by decide) hd) h hl K
  | .ixor, hd, hk, h => exact am_s23 hx hb hg (am_le (n := 1) hk rfl (by decide) hd) h hl K
  | .ishl, hd, hk, h => exact am_s24 hx hb hg (am_le (n := 1) hk rfl (by decide) hd) h hl K
  | .ishr, hd, hk, h => exact am_s25 hx hb hg (am_le (n := 1) hk rfl (by decide) hd) h hl K
  | .iushr, hd, hk, h => exact am_s26 hx hb hg (am_le (n := 1) hk rfl (by decide) hd) h hl K
  | .idiv, hd, hk, h => exact am_s27 hx hb hg (am_le (n := 1) hk rfl (by decide) hd) h hl K
  | .irem, hd, hk, h => exact am_s28 hx hb hg (am_le (n := 1) hk rfl (by decide) hd) h hl K
  | .ineg, hd, hk, h => exact am_s29 hx hb hg (am_le (n := 1) hk rfl (by decide) hd) h hl K
  | .i2b, hd, hk, h => exact am_s30 hx hb hg (am_le (n := 1) hk rfl (by decide) hd) h hl K
  | .i2s, hd, hk, h => exact am_s31 hx hb hg (am_le (n := 1) hk rfl (by decide) hd) h hl K
  | .i2c, hd, hk, h => exact am_s32 hx hb hg (am_le (n := 1) hk rfl (by decide) hd) h hl K
  | .ladd, hd, hk, h => exact am_s33 hx hb hg (am_le (n := 1) hk rfl (by decide) hd) h hl K
  | .lsub, hd, hk, h => exact am_s34 hx hb hg (am_le (n := 1) hk rfl (by decide) hd) h hl K
  | .lmul, hd, hk, h => exact am_s35 hx hb hg (am_le (n := 1) hk rfl (by decide) hd) h hl K
  | .land, hd, hk, h => exact am_s36 hx hb hg (am_le (n := 1) hk rfl (by decide) hd) h hl K
  | .lor, hd, hk, h => exact am_s37 hx hb hg (am_le (n := 1) hk rfl (by decide) hd) h hl K
  | .lxor, hd, hk, h => exact am_s38 hx hb hg (am_le (n := 1) hk rfl (by decide) hd) h hl K
  | .lneg, hd, hk, h => exact am_s39 hx hb hg (am_le (n := 1) hk rfl (by decide) hd) h hl K
  | .lshl, hd, hk, h => exact am_s40 hx hb hg (am_le (n := 1) hk rfl (by decide) hd) h hl K
  | .lshr, hd, hk, h => exact am_s41 hx hb hg (am_le (n := 1) hk rfl (by decide) hd) h hl K
  | .lushr, hd, hk, h => exact am_s42 hx hb hg (am_le (n := 1) hk rfl (by decide) hd) h hl K
  | .i2l, hd, hk, h => exact am_s43 hx hb hg (am_le (n := 1) hk rfl (by decide) hd) h hl K
  | .l2i, hd, hk, h => exact am_s44 hx hb hg (am_le (n := 1) hk rfl (by decide) hd) h hl K
  | .lcmp, hd, hk, h => exact am_s45 hx hb hg (am_le (n := 1) hk rfl (by decide) hd) h hl K
  | .dup, hd, hk, h => exact am_s46 hx hb hg (am_le (n := 1) hk rfl (by decide) hd) h hl K
  | .pop, hd, hk, h => exact am_s47 hx hb hg (am_le (n := 1) hk rfl (by decide) hd) h hl K
  | .dup_x1, hd, hk, h => exact am_s48 hx hb hg (am_le (n := 1) hk rfl (by decide) hd) h hl K
  | .dup2, hd, hk, h => exact am_s49 hx hb hg (am_le (n := 1) hk rfl (by decide) hd) h hl K
  | .goto off, hd, hk, h => exact am_s50 hx hb hg (am_le (n := 3) hk rfl (by decide) hd) h hl K
  | .ifCond .eq off, hd, hk, h => exact am_s51 hx hb hg (am_le (n := 3) hk rfl (by decide) hd) h hl K
  | .ifCond .ne off, hd, hk, h => exact am_s52 hx hb hg (am_le (n := 3) hk rfl (by decide) hd) h hl K
  | .ifCond .lt off, hd, hk, h => exact am_s53 hx hb hg (am_le (n := 3) hk rfl (by decide) hd) h hl K
  | .ifCond .ge off, hd, hk, h => exact am_s54 hx hb hg (am_le (n := 3) hk rfl (by decide) hd) h hl K
  | .ifCond .gt off, hd, hk, h => exact am_s55 hx hb hg (am_le (n := 3) hk rfl (by decide) hd) h hl K
  | .ifCond .le off, hd, hk, h => exact am_s56 hx hb hg (am_le (n := 3) hk rfl (by decide) hd) h hl K
  | .if_icmp .eq off, hd, hk, h => exact am_s57 hx hb hg (am_le (n := 3) hk rfl (by decide) hd) h hl K
  | .if_icmp .ne off, hd, hk, h => exact am_s58 hx hb hg (am_le (n := 3) hk rfl (by decide) hd) h hl K
  | .if_icmp .lt off, hd, hk, h => exact am_s59 hx hb hg (am_le (n := 3) hk rfl (by decide) hd) h hl K
  | .if_icmp .ge off, hd, hk, h => exact am_s60 hx hb hg (am_le (n := 3) hk rfl (by decide) hd) h hl K
  | .if_icmp .gt off, hd, hk, h => exact am_s61 hx hb hg (am_le (n := 3) hk rfl (by decide) hd) h hl K
  | .if_icmp .le off, hd, hk, h => exact am_s62 hx hb hg (am_le (n := 3) hk rfl (by decide) hd) h hl K
  | .ifnull off, hd, hk, h => exact am_s63 hx hb hg (am_le (n := 3) hk rfl (by decide) hd) h hl K
  | .ifnonnull off, hd, hk, h => exact am_s64 hx hb hg (am_le (n := 3) hk rfl (by decide) hd) h hl K
  | .if_acmp .eq off, hd, hk, h => exact am_s65 hx hb hg (am_le (n := 3) hk rfl (by decide) hd) h hl K
  | .if_acmp .ne off, hd, hk, h => exact am_s66 hx hb hg (am_le (n := 3) hk rfl (by decide) hd) h hl K
  | .tableswitch d lo hi offs, hd, hk, h => exact am_s67 hx hb hg hd h hl K
  | .lookupswitch d ps, hd, hk, h => exact am_s68 hx hb hg hd h hl K
