/-- numbers for all: code and number: 0 an int, 1 a long, 2 a reference (-1: null), 3 nothing is known -/
abbrev e3_V : Type := Nat × Int
abbrev e3_H : Type := Int → Int → Int
abbrev e3_G : Type := List (Nat × Nat)
def e3_v (v : e3_V) : Value := match v with
  | (0, x) => .int (Int32.ofInt x)
  | (1, x) => .long (Int64.ofInt x)
  | (_, x) => if x < 0 then .null else .ref x.toNat
def e3_i32 (x : Int) : Prop := -2147483648 ≤ x ∧ x ≤ 2147483647
def e3_i64 (x : Int) : Prop := -9223372036854775808 ≤ x ∧ x ≤ 9223372036854775807
def e3_ok (v : e3_V) : Prop := match v with
  | (0, x) => e3_i32 x
  | (1, x) => e3_i64 x
  | (2, x) => -1 ≤ x
  | _ => False
def e3_w32 (x : Int) : Int := (x + 2147483648) % 4294967296 - 2147483648
def e3_w64 (x : Int) : Int := (x + 9223372036854775808) % 18446744073709551616 - 9223372036854775808
theorem e3_w32_ok (x : Int) : e3_i32 (e3_w32 x) := by unfold e3_i32 e3_w32; omega
theorem e3_w64_ok (x : Int) : e3_i64 (e3_w64 x) := by unfold e3_i64 e3_w64; omega
theorem e3_w32_id {x : Int} (h1 : -2147483648 ≤ x) (h2 : x ≤ 2147483647) : e3_w32 x = x := by unfold e3_w32; omega
theorem e3_w64_id {x : Int} (h1 : -9223372036854775808 ≤ x) (h2 : x ≤ 9223372036854775807) : e3_w64 x = x := by unfold e3_w64; omega
theorem e3_w32_bm (x : Int) : e3_w32 x = x.bmod 4294967296 := by
  unfold e3_w32 Int.bmod
  simp only
  split <;> omega
theorem e3_w64_bm (x : Int) : e3_w64 x = x.bmod 18446744073709551616 := by
  unfold e3_w64 Int.bmod
  simp only
  split <;> omega
theorem e3_of32 {x : Int} (h : e3_i32 x) : (Int32.ofInt x).toInt = x := Int32.toInt_ofInt_of_le (by have := h.1; omega) (by have := h.2; omega)
theorem e3_of64 {x : Int} (h : e3_i64 x) : (Int64.ofInt x).toInt = x := Int64.toInt_ofInt_of_le (by have := h.1; omega) (by have := h.2; omega)
theorem e3_ofw32 (x : Int) : Int32.ofInt (e3_w32 x) = Int32.ofInt x := by
  apply Int32.toInt_inj.mp
  rw [e3_of32 (e3_w32_ok x), e3_w32_bm]
  exact (Int32.toInt_ofInt (n := x)).symm
theorem e3_ofw64 (x : Int) : Int64.ofInt (e3_w64 x) = Int64.ofInt x := by
  apply Int64.toInt_inj.mp
  rw [e3_of64 (e3_w64_ok x), e3_w64_bm]
  exact (Int64.toInt_ofInt (n := x)).symm
theorem e3_rg32 (x : Int32) : e3_i32 x.toInt := ⟨by have := Int32.le_toInt x; omega, by have := Int32.toInt_lt x; omega⟩
theorem e3_rg64 (x : Int64) : e3_i64 x.toInt := ⟨by have := Int64.le_toInt x; omega, by have := Int64.toInt_lt x; omega⟩
theorem e3_lt32 {x y : Int} (hx : e3_i32 x) (hy : e3_i32 y) : Int32.ofInt x < Int32.ofInt y ↔ x < y := by rw [Int32.lt_iff_toInt_lt, e3_of32 hx, e3_of32 hy]
theorem e3_le32 {x y : Int} (hx : e3_i32 x) (hy : e3_i32 y) : Int32.ofInt x ≤ Int32.ofInt y ↔ x ≤ y := by rw [Int32.le_iff_toInt_le, e3_of32 hx, e3_of32 hy]
theorem e3_eq32 {x y : Int} (hx : e3_i32 x) (hy : e3_i32 y) : Int32.ofInt x = Int32.ofInt y ↔ x = y := by rw [← Int32.toInt_inj, e3_of32 hx, e3_of32 hy]
theorem e3_lt64 {x y : Int} (hx : e3_i64 x) (hy : e3_i64 y) : Int64.ofInt x < Int64.ofInt y ↔ x < y := by rw [Int64.lt_iff_toInt_lt, e3_of64 hx, e3_of64 hy]
theorem e3_eq64 {x y : Int} (hx : e3_i64 x) (hy : e3_i64 y) : Int64.ofInt x = Int64.ofInt y ↔ x = y := by rw [← Int64.toInt_inj, e3_of64 hx, e3_of64 hy]
theorem e3_z32 : e3_i32 0 := ⟨by omega, by omega⟩
theorem e3_clamp {x : Int} (h : e3_i32 x) : (Int32.ofInt x).toNatClampNeg = x.toNat := by
  show (Int32.ofInt x).toInt.toNat = _
  rw [e3_of32 h]
theorem e3_iin {x : Int} {n : Nat} (h : e3_i32 x) (h0 : 0 ≤ x) (h1 : x < n) : am_iin (Int32.ofInt x) n = true := by
  unfold am_iin
  rw [e3_clamp h]
  have h2 : ¬ Int32.ofInt x < 0 := by
    rw [show (0 : Int32) = Int32.ofInt 0 from rfl, e3_lt32 h e3_z32]
    omega
  simp only [Bool.and_eq_true, Bool.not_eq_true', decide_eq_false_iff_not, decide_eq_true_eq]
  exact ⟨h2, by omega⟩
def e3_i1 (f : Int32 → Int32) (x : Int) : Int := (f (Int32.ofInt x)).toInt
def e3_i2 (f : Int32 → Int32 → Int32) (x y : Int) : Int := (f (Int32.ofInt x) (Int32.ofInt y)).toInt
def e3_l2 (f : Int64 → Int64 → Int64) (x y : Int) : Int := (f (Int64.ofInt x) (Int64.ofInt y)).toInt
def e3_ls (f : Int64 → Int32 → Int64) (x y : Int) : Int := (f (Int64.ofInt x) (Int32.ofInt y)).toInt
abbrev e3_and (x y : Int) : Int := e3_i2 (fun x y => x &&& y) x y
abbrev e3_or (x y : Int) : Int := e3_i2 (fun x y => x ||| y) x y
abbrev e3_xor (x y : Int) : Int := e3_i2 (fun x y => x ^^^ y) x y
abbrev e3_shl (x y : Int) : Int := e3_i2 (fun x y => x <<< (y &&& 31)) x y
abbrev e3_shr (x y : Int) : Int := e3_i2 (fun x y => x >>> (y &&& 31)) x y
abbrev e3_ushr (x y : Int) : Int := e3_i2 (fun x y => (x.toUInt32 >>> (y.toUInt32 &&& Int32.toUInt32 31)).toInt32) x y
abbrev e3_div (x y : Int) : Int := e3_i2 (fun x y => x / y) x y
abbrev e3_rem (x y : Int) : Int := e3_i2 (fun x y => x - x / y * y) x y
abbrev e3_b (x : Int) : Int := e3_i1 (fun x => x.toInt8.toInt32) x
abbrev e3_ch (x : Int) : Int := e3_i1 (fun x => (x.toUInt32 % 65536).toInt32) x
abbrev e3_land (x y : Int) : Int := e3_l2 (fun x y => x &&& y) x y
abbrev e3_lor (x y : Int) : Int := e3_l2 (fun x y => x ||| y) x y
abbrev e3_lxor (x y : Int) : Int := e3_l2 (fun x y => x ^^^ y) x y
abbrev e3_lshl (x y : Int) : Int := e3_ls (fun x y => x <<< (y.toInt64 &&& 63)) x y
abbrev e3_lshr (x y : Int) : Int := e3_ls (fun x y => x >>> (y.toInt64 &&& 63)) x y
abbrev e3_lushr (x y : Int) : Int := e3_ls (fun x y => (x.toUInt64 >>> (y.toInt64.toUInt64 &&& Int64.toUInt64 63)).toInt64) x y
def e3_cmp (x y : Int) : Int := if y < x then 1 else if x = y then 0 else -1
/-- a number in an instruction -/
def e3_sm (b : Nat) (n : Int) : Bool := match n with
  | .ofNat k => Nat.ble k b
  | .negSucc k => Nat.ble k b
theorem e3_sm_ok {b : Nat} {n : Int} (h : e3_sm b n = true) : -((b : Int) + 1) ≤ n ∧ n ≤ b := by
  unfold e3_sm at h
  split at h
  · rename_i k
    have := Nat.le_of_ble_eq_true h
    show -((b : Int) + 1) ≤ (k : Int) ∧ (k : Int) ≤ b
    omega
  · rename_i k
    have := Nat.le_of_ble_eq_true h
    omega
/-- words of a frame by places -/
def e3_kl (lv : List e3_V) (i : Nat) : List e3_V := match i with
  | 0 => lv
  | j + 1 => match lv[j]? with
    | some (1, _) => lv.set j (3, 0)
    | _ => lv
def e3_s1 (lv : List e3_V) (i : Nat) (v : e3_V) : List e3_V := (e3_kl lv i).set i v
def e3_s2 (lv : List e3_V) (i : Nat) (v : e3_V) : List e3_V := ((e3_kl lv i).set i v).set (i + 1) (3, 0)
def e3_L (lv : List e3_V) (lvA : List (Nat × Value)) : Prop := ∀ (i c : Nat) (x : Int), lv[i]? = some (c, x) → c < 3 → e3_ok (c, x) ∧ am_ld lvA i = some (e3_v (c, x))
def e3_S (st : List e3_V) : Prop := ∀ v ∈ st, e3_ok v
theorem e3_S_cons {v : e3_V} {st : List e3_V} : e3_S (v :: st) ↔ e3_ok v ∧ e3_S st := by
  unfold e3_S
  simp
theorem e3_cat1 {c : Nat} {x : Int} (hc : ¬ c = 1) : (e3_v (c, x)).category = 1 := by
  match c, hc with
  | 0, _ => rfl
  | 1, h => exact absurd rfl h
  | c + 2, _ =>
    show (if x < 0 then Value.null else Value.ref x.toNat).category = 1
    split <;> rfl
theorem e3_cat2 {x : Int} : (e3_v (1, x)).category = 2 := rfl
theorem am_ld_p1_self (lv : List (Nat × Value)) (i : Nat) (v : Value) : am_ld (am_p1 lv i v) i = some v := by
  unfold am_ld am_p1
  simp
theorem am_ld_fil {lv : List (Nat × Value)} {P : Nat × Value → Bool} {i j : Nat} {v u : Value} (hj : j ≠ i) (h : am_ld lv j = some u) (hP : P (j, u) = true) : am_ld ((i, v) :: lv.filter P) j = some u := by
  unfold am_ld at *
  have h0 : (i == j) = false := by simp; omega
  rw [List.find?_cons]
  simp only [h0]
  cases hf : lv.find? (fun q => q.1 == j) with
  | none => rw [hf] at h; cases h
  | some q =>
    rw [hf] at h
    cases h
    have h1 : q.1 = j := by simpa using List.find?_some hf
    have hq : P q = true := by
      obtain ⟨q1, q2⟩ := q
      simp only at h1
      subst h1
      exact hP
    have key : (lv.filter P).find? (fun q => q.1 == j) = some q := by
      rw [List.find?_eq_some_iff_append] at hf ⊢
      obtain ⟨hq2, as, bs, hl, hn⟩ := hf
      refine ⟨hq2, as.filter P, bs.filter P, ?_, ?_⟩
      · rw [hl, List.filter_append, List.filter_cons, hq]
        rfl
      · intro a ha
        exact hn a (List.mem_filter.mp ha).1
    rw [key]
    rfl
theorem am_ld_p1_ne {lv : List (Nat × Value)} {i j : Nat} {v u : Value} (hj : j ≠ i) (h : am_ld lv j = some u) (hc : ¬ (j + 1 = i ∧ u.category = 2)) : am_ld (am_p1 lv i v) j = some u := by
  unfold am_p1
  refine am_ld_fil hj h ?_
  simp only [Bool.and_eq_true, Bool.not_eq_true', beq_eq_false_iff_ne, ne_eq, Bool.and_eq_false_iff]
  refine ⟨hj, ?_⟩
  by_cases h1 : j + 1 = i
  · exact Or.inr (fun h2 => hc ⟨h1, h2⟩)
  · exact Or.inl h1
theorem am_ld_p2_self (lv : List (Nat × Value)) (i : Nat) (v : Value) : am_ld (am_p2 lv i v) i = some v := by
  unfold am_ld am_p2
  simp
theorem am_ld_p2_ne {lv : List (Nat × Value)} {i j : Nat} {v u : Value} (hj : j ≠ i) (hj2 : j ≠ i + 1) (h : am_ld lv j = some u) (hc : ¬ (j + 1 = i ∧ u.category = 2)) : am_ld (am_p2 lv i v) j = some u := by
  unfold am_p2
  refine am_ld_fil hj h ?_
  simp only [Bool.and_eq_true, Bool.not_eq_true', beq_eq_false_iff_ne, ne_eq, Bool.and_eq_false_iff]
  refine ⟨hj, hj2, ?_⟩
  by_cases h1 : j + 1 = i
  · exact Or.inr (fun h2 => hc ⟨h1, h2⟩)
  · exact Or.inl h1
/-- what is left of a place when place i is written -/
theorem e3_kl_at {lv : List e3_V} {i j c : Nat} {x : Int} (h : (e3_kl lv i)[j]? = some (c, x)) (hc : c < 3) : lv[j]? = some (c, x) ∧ ¬ (j + 1 = i ∧ c = 1) := by
  unfold e3_kl at h
  split at h
  · exact ⟨h, by omega⟩
  · rename_i k
    split at h
    · rename_i y hy
      by_cases hjk : k = j
      · subst hjk
        rw [List.getElem?_set_self (by have := (List.getElem?_eq_some_iff.mp hy).1; exact this)] at h
        cases h
        omega
      · rw [List.getElem?_set_ne hjk] at h
        exact ⟨h, by omega⟩
    · rename_i hn
      refine ⟨h, ?_⟩
      rintro ⟨h1, h2⟩
      subst h2
      have : j = k := by omega
      subst this
      exact hn x h
theorem e3_L_s1 {lv : List e3_V} {lvA : List (Nat × Value)} {i : Nat} {v : e3_V} (hL : e3_L lv lvA) (hv : e3_ok v) : e3_L (e3_s1 lv i v) (am_p1 lvA i (e3_v v)) := by
  intro j c x h hc
  unfold e3_s1 at h
  by_cases hj : i = j
  · subst hj
    rw [List.getElem?_set] at h
    simp only [if_true] at h
    split at h
    · cases h
      exact ⟨hv, am_ld_p1_self _ _ _⟩
    · cases h
  · rw [List.getElem?_set_ne hj] at h
    obtain ⟨h1, h2⟩ := e3_kl_at h hc
    obtain ⟨h3, h4⟩ := hL j c x h1 hc
    refine ⟨h3, am_ld_p1_ne (fun z => hj z.symm) h4 ?_⟩
    rintro ⟨a, b⟩
    by_cases hc1 : c = 1
    · exact h2 ⟨a, hc1⟩
    · rw [e3_cat1 hc1] at b
      cases b
theorem e3_L_s2 {lv : List e3_V} {lvA : List (Nat × Value)} {i : Nat} {v : e3_V} (hL : e3_L lv lvA) (hv : e3_ok v) : e3_L (e3_s2 lv i v) (am_p2 lvA i (e3_v v)) := by
  intro j c x h hc
  unfold e3_s2 at h
  by_cases hj2 : i + 1 = j
  · subst hj2
    rw [List.getElem?_set] at h
    simp only [if_true] at h
    split at h
    · cases h
      omega
    · cases h
  · rw [List.getElem?_set_ne hj2] at h
    by_cases hj : i = j
    · subst hj
      rw [List.getElem?_set] at h
      simp only [if_true] at h
      split at h
      · cases h
        exact ⟨hv, am_ld_p2_self _ _ _⟩
      · cases h
    · rw [List.getElem?_set_ne hj] at h
      obtain ⟨h1, h2⟩ := e3_kl_at h hc
      obtain ⟨h3, h4⟩ := hL j c x h1 hc
      refine ⟨h3, am_ld_p2_ne (fun z => hj z.symm) (fun z => hj2 z.symm) h4 ?_⟩
      rintro ⟨a, b⟩
      by_cases hc1 : c = 1
      · exact h2 ⟨a, hc1⟩
      · rw [e3_cat1 hc1] at b
        cases b
/-- pure steps -/
abbrev e3_X : Type := Nat × List e3_V × List e3_V
def e3_ld (k : Nat) (lv st : List e3_V) (i t : Nat) : Option e3_X := match lv[i]? with
  | some (c, x) => if Nat.beq c k then some (t, lv, (k, x) :: st) else none
  | none => none
def e3_st (k nL : Nat) (lv st : List e3_V) (i t : Nat) : Option e3_X := match st with
  | (c, x) :: r => if Nat.beq c k && Nat.blt i nL then some (t, e3_s1 lv i (k, x), r) else none
  | _ => none
def e3_stl (nL : Nat) (lv st : List e3_V) (i t : Nat) : Option e3_X := match st with
  | (1, x) :: r => if Nat.blt (i + 1) nL then some (t, e3_s2 lv i (1, x), r) else none
  | _ => none
def e3_inc (nL : Nat) (lv st : List e3_V) (i : Nat) (n : Int) (t : Nat) : Option e3_X := match lv[i]? with
  | some (0, x) => if Nat.blt i nL then some (t, e3_s1 lv i (0, e3_w32 (x + n)), st) else none
  | _ => none
def e3_u1 (f : Int → Int) (lv st : List e3_V) (t : Nat) : Option e3_X := match st with
  | (0, x) :: r => some (t, lv, (0, f x) :: r)
  | _ => none
def e3_u2 (f : Int → Int → Int) (lv st : List e3_V) (t : Nat) : Option e3_X := match st with
  | (0, y) :: (0, x) :: r => some (t, lv, (0, f x y) :: r)
  | _ => none
def e3_ul1 (f : Int → Int) (lv st : List e3_V) (t : Nat) : Option e3_X := match st with
  | (1, x) :: r => some (t, lv, (1, f x) :: r)
  | _ => none
def e3_ul2 (f : Int → Int → Int) (lv st : List e3_V) (t : Nat) : Option e3_X := match st with
  | (1, y) :: (1, x) :: r => some (t, lv, (1, f x y) :: r)
  | _ => none
def e3_uls (f : Int → Int → Int) (lv st : List e3_V) (t : Nat) : Option e3_X := match st with
  | (0, y) :: (1, x) :: r => some (t, lv, (1, f x y) :: r)
  | _ => none
def e3_c1 (c : Nat) : Bool := match c with
  | 1 => false
  | _ => true
def e3_p (nL : Nat) (i : Instr) (pc : Nat) (lv st : List e3_V) : Option e3_X := match i with
  | .iconst n => if e3_sm 127 n then some (pc + 1, lv, (0, n) :: st) else none
  | .bipush n => if e3_sm 127 n then some (pc + 2, lv, (0, n) :: st) else none
  | .sipush n => if e3_sm 32767 n then some (pc + 3, lv, (0, n) :: st) else none
  | .lconst n => some (pc + 1, lv, (1, ((n : Nat) : Int)) :: st)
  | .aconst_null => some (pc + 1, lv, (2, -1) :: st)
  | .iload_n k => e3_ld 0 lv st (k : Nat) (pc + 1)
  | .iload k => e3_ld 0 lv st k (pc + 2)
  | .lload_n k => e3_ld 1 lv st (k : Nat) (pc + 1)
  | .lload k => e3_ld 1 lv st k (pc + 2)
  | .aload_n k => e3_ld 2 lv st (k : Nat) (pc + 1)
  | .aload k => e3_ld 2 lv st k (pc + 2)
  | .istore_n k => e3_st 0 nL lv st (k : Nat) (pc + 1)
  | .istore k => e3_st 0 nL lv st k (pc + 2)
  | .lstore_n k => e3_stl nL lv st (k : Nat) (pc + 1)
  | .lstore k => e3_stl nL lv st k (pc + 2)
  | .astore_n k => e3_st 2 nL lv st (k : Nat) (pc + 1)
  | .astore k => e3_st 2 nL lv st k (pc + 2)
  | .iinc k n => e3_inc nL lv st k n (pc + 3)
  | .iadd => e3_u2 (fun x y => e3_w32 (x + y)) lv st (pc + 1)
  | .isub => e3_u2 (fun x y => e3_w32 (x - y)) lv st (pc + 1)
  | .imul => e3_u2 (fun x y => e3_w32 (x * y)) lv st (pc + 1)
  | .iand => e3_u2 e3_and lv st (pc + 1)
  | .ior => e3_u2 e3_or lv st (pc + 1)
  | .ixor => e3_u2 e3_xor lv st (pc + 1)
  | .ishl => e3_u2 e3_shl lv st (pc + 1)
  | .ishr => e3_u2 e3_shr lv st (pc + 1)
  | .iushr => e3_u2 e3_ushr lv st (pc + 1)
  | .ineg => e3_u1 (fun x => e3_w32 (-x)) lv st (pc + 1)
  | .i2b => e3_u1 e3_b lv st (pc + 1)
  | .i2c => e3_u1 e3_ch lv st (pc + 1)
  | .ladd => e3_ul2 (fun x y => e3_w64 (x + y)) lv st (pc + 1)
  | .lsub => e3_ul2 (fun x y => e3_w64 (x - y)) lv st (pc + 1)
  | .lmul => e3_ul2 (fun x y => e3_w64 (x * y)) lv st (pc + 1)
  | .land => e3_ul2 e3_land lv st (pc + 1)
  | .lor => e3_ul2 e3_lor lv st (pc + 1)
  | .lxor => e3_ul2 e3_lxor lv st (pc + 1)
  | .lneg => e3_ul1 (fun x => e3_w64 (-x)) lv st (pc + 1)
  | .lshl => e3_uls e3_lshl lv st (pc + 1)
  | .lshr => e3_uls e3_lshr lv st (pc + 1)
  | .lushr => e3_uls e3_lushr lv st (pc + 1)
  | .i2l => (match st with | (0, x) :: r => some (pc + 1, lv, (1, x) :: r) | _ => none)
  | .l2i => (match st with | (1, x) :: r => some (pc + 1, lv, (0, e3_w32 x) :: r) | _ => none)
  | .lcmp => (match st with | (1, y) :: (1, x) :: r => some (pc + 1, lv, (0, e3_cmp x y) :: r) | _ => none)
  | .dup => (match st with | (c, x) :: r => if e3_c1 c then some (pc + 1, lv, (c, x) :: (c, x) :: r) else none | _ => none)
  | .pop => (match st with | (c, _) :: r => if e3_c1 c then some (pc + 1, lv, r) else none | _ => none)
  | .dup_x1 => (match st with | (c, x) :: (d, y) :: r => if e3_c1 c && e3_c1 d then some (pc + 1, lv, (c, x) :: (d, y) :: (c, x) :: r) else none | _ => none)
  | .dup2 => (match st with | (c, x) :: (d, y) :: r => if e3_c1 c && e3_c1 d then some (pc + 1, lv, (c, x) :: (d, y) :: (c, x) :: (d, y) :: r) else none | _ => none)
  | .goto off => (match am_jp pc off with | some t => some (t, lv, st) | none => none)
  | _ => none
theorem e3_c1_ok {c : Nat} {x : Int} (h : e3_c1 c = true) : (e3_v (c, x)).category = 1 := e3_cat1 (by rintro rfl; cases h)
def e3_P (nL : Nat) (i : Instr) (pc : Nat) (lvA : List (Nat × Value)) (st : List e3_V) (pc2 : Nat) (lv2 st2 : List e3_V) : Prop := ∃ lvA2, am_pu nL i pc lvA (st.map e3_v) = some (pc2, lvA2, st2.map e3_v) ∧ e3_L lv2 lvA2 ∧ e3_S st2
section E3P
variable {nL pc t pc2 : Nat} {lv st lv2 st2 : List e3_V} {lvA : List (Nat × Value)} {i : Instr}
theorem e3_P_i {k : Nat} (hi : am_pu nL i pc lvA (st.map e3_v) = am_ldi lvA (st.map e3_v) k t) (hL : e3_L lv lvA) (hS : e3_S st) (h : e3_ld 0 lv st k t = some (pc2, lv2, st2)) : e3_P nL i pc lvA st pc2 lv2 st2 := by
  unfold e3_ld at h
  split at h
  · rename_i c x hx
    split at h
    · rename_i hc
      have := Nat.eq_of_beq_eq_true hc
      subst this
      cases h
      obtain ⟨h1, h2⟩ := hL _ _ _ hx (by omega)
      exact ⟨lvA, by rw [hi]; unfold am_ldi; rw [h2]; rfl, hL, e3_S_cons.mpr ⟨h1, hS⟩⟩
    · cases h
  · cases h
theorem e3_P_l {k : Nat} (hi : am_pu nL i pc lvA (st.map e3_v) = am_ldl lvA (st.map e3_v) k t) (hL : e3_L lv lvA) (hS : e3_S st) (h : e3_ld 1 lv st k t = some (pc2, lv2, st2)) : e3_P nL i pc lvA st pc2 lv2 st2 := by
  unfold e3_ld at h
  split at h
  · rename_i c x hx
    split at h
    · rename_i hc
      have := Nat.eq_of_beq_eq_true hc
      subst this
      cases h
      obtain ⟨h1, h2⟩ := hL _ _ _ hx (by omega)
      exact ⟨lvA, by rw [hi]; unfold am_ldl; rw [h2]; rfl, hL, e3_S_cons.mpr ⟨h1, hS⟩⟩
    · cases h
  · cases h
theorem e3_P_a {k : Nat} (hi : am_pu nL i pc lvA (st.map e3_v) = am_lda lvA (st.map e3_v) k t) (hL : e3_L lv lvA) (hS : e3_S st) (h : e3_ld 2 lv st k t = some (pc2, lv2, st2)) : e3_P nL i pc lvA st pc2 lv2 st2 := by
  unfold e3_ld at h
  split at h
  · rename_i c x hx
    split at h
    · rename_i hc
      have := Nat.eq_of_beq_eq_true hc
      subst this
      cases h
      obtain ⟨h1, h2⟩ := hL _ _ _ hx (by omega)
      refine ⟨lvA, ?_, hL, e3_S_cons.mpr ⟨h1, hS⟩⟩
      rw [hi]
      unfold am_lda
      rw [h2, List.map_cons]
      show (match (some (if x < 0 then Value.null else Value.ref x.toNat) : Option Value) with | some (.ref x) => some (t, lvA, .ref x :: st.map e3_v) | some .null => some (t, lvA, .null :: st.map e3_v) | _ => none) = some (t, lvA, (if x < 0 then Value.null else Value.ref x.toNat) :: st.map e3_v)
      by_cases hx0 : x < 0
      · simp only [if_pos hx0]
      · simp only [if_neg hx0]
    · cases h
  · cases h
theorem e3_P_si {k : Nat} (hi : am_pu nL i pc lvA (st.map e3_v) = am_sti nL lvA (st.map e3_v) k t) (hL : e3_L lv lvA) (hS : e3_S st) (h : e3_st 0 nL lv st k t = some (pc2, lv2, st2)) : e3_P nL i pc lvA st pc2 lv2 st2 := by
  unfold e3_st at h
  split at h
  · rename_i c x r
    split at h
    · rename_i hc
      simp only [Bool.and_eq_true] at hc
      have := Nat.eq_of_beq_eq_true hc.1
      subst this
      cases h
      obtain ⟨h1, h2⟩ := e3_S_cons.mp hS
      refine ⟨am_p1 lvA k (e3_v (0, x)), ?_, e3_L_s1 hL h1, h2⟩
      rw [hi]
      show (if k < nL then some (t, am_p1 lvA k (.int (Int32.ofInt x)), st2.map e3_v) else none) = _
      rw [if_pos (by simpa [Nat.blt_eq] using hc.2)]
      rfl
    · cases h
  · cases h
theorem e3_P_sa {k : Nat} (hi : am_pu nL i pc lvA (st.map e3_v) = am_sta nL lvA (st.map e3_v) k t) (hL : e3_L lv lvA) (hS : e3_S st) (h : e3_st 2 nL lv st k t = some (pc2, lv2, st2)) : e3_P nL i pc lvA st pc2 lv2 st2 := by
  unfold e3_st at h
  split at h
  · rename_i c x r
    split at h
    · rename_i hc
      simp only [Bool.and_eq_true] at hc
      have := Nat.eq_of_beq_eq_true hc.1
      subst this
      cases h
      obtain ⟨h1, h2⟩ := e3_S_cons.mp hS
      refine ⟨am_p1 lvA k (e3_v (2, x)), ?_, e3_L_s1 hL h1, h2⟩
      rw [hi, List.map_cons]
      have hk : k < nL := by simpa [Nat.blt_eq] using hc.2
      have e : e3_v (2, x) = if x < 0 then Value.null else Value.ref x.toNat := rfl
      rw [e]
      by_cases hx0 : x < 0
      · simp only [if_pos hx0, am_sta, if_pos hk]
      · simp only [if_neg hx0, am_sta, if_pos hk]
    · cases h
  · cases h
theorem e3_P_sl {k : Nat} (hi : am_pu nL i pc lvA (st.map e3_v) = am_stl nL lvA (st.map e3_v) k t) (hL : e3_L lv lvA) (hS : e3_S st) (h : e3_stl nL lv st k t = some (pc2, lv2, st2)) : e3_P nL i pc lvA st pc2 lv2 st2 := by
  unfold e3_stl at h
  split at h
  · rename_i x r
    split at h
    · rename_i hc
      cases h
      obtain ⟨h1, h2⟩ := e3_S_cons.mp hS
      refine ⟨am_p2 lvA k (e3_v (1, x)), ?_, e3_L_s2 hL h1, h2⟩
      rw [hi]
      show (if k + 1 < nL then some (t, am_p2 lvA k (.long (Int64.ofInt x)), st2.map e3_v) else none) = _
      rw [if_pos (by simpa [Nat.blt_eq] using hc)]
      rfl
    · cases h
  · cases h
theorem e3_P_inc {k : Nat} {n : Int} (hi : am_pu nL i pc lvA (st.map e3_v) = am_inc nL lvA (st.map e3_v) k n t) (hL : e3_L lv lvA) (hS : e3_S st) (h : e3_inc nL lv st k n t = some (pc2, lv2, st2)) : e3_P nL i pc lvA st pc2 lv2 st2 := by
  unfold e3_inc at h
  split at h
  · rename_i x hx
    split at h
    · rename_i hc
      cases h
      obtain ⟨h1, h2⟩ := hL _ _ _ hx (by omega)
      refine ⟨am_p1 lvA k (e3_v (0, e3_w32 (x + n))), ?_, e3_L_s1 hL (e3_w32_ok _), hS⟩
      rw [hi]
      unfold am_inc
      rw [h2]
      show (if k < nL then some (t, am_p1 lvA k (.int (Int32.ofInt x + Int32.ofInt n)), st.map e3_v) else none) = _
      rw [if_pos (by simpa [Nat.blt_eq] using hc)]
      show _ = some (t, am_p1 lvA k (.int (Int32.ofInt (e3_w32 (x + n)))), st.map e3_v)
      rw [e3_ofw32, Int32.ofInt_add]
    · cases h
  · cases h
theorem e3_P_u1 {f : Int → Int} {g : Int32 → Int32} (hi : am_pu nL i pc lvA (st.map e3_v) = am_i1 g lvA (st.map e3_v) t) (hf : ∀ x, Int32.ofInt (f x) = g (Int32.ofInt x) ∧ e3_i32 (f x)) (hL : e3_L lv lvA) (hS : e3_S st) (h : e3_u1 f lv st t = some (pc2, lv2, st2)) : e3_P nL i pc lvA st pc2 lv2 st2 := by
  unfold e3_u1 at h
  split at h
  · rename_i x r
    cases h
    obtain ⟨h1, h2⟩ := e3_S_cons.mp hS
    refine ⟨lvA, ?_, hL, e3_S_cons.mpr ⟨(hf x).2, h2⟩⟩
    rw [hi]
    show some (t, lvA, Value.int (g (Int32.ofInt x)) :: r.map e3_v) = some (t, lvA, Value.int (Int32.ofInt (f x)) :: r.map e3_v)
    rw [(hf x).1]
  · cases h
theorem e3_P_u2 {f : Int → Int → Int} {g : Int32 → Int32 → Int32} (hi : am_pu nL i pc lvA (st.map e3_v) = am_i2 g lvA (st.map e3_v) t) (hf : ∀ x y, Int32.ofInt (f x y) = g (Int32.ofInt x) (Int32.ofInt y) ∧ e3_i32 (f x y)) (hL : e3_L lv lvA) (hS : e3_S st) (h : e3_u2 f lv st t = some (pc2, lv2, st2)) : e3_P nL i pc lvA st pc2 lv2 st2 := by
  unfold e3_u2 at h
  split at h
  · rename_i y x r
    cases h
    obtain ⟨h1, h2⟩ := e3_S_cons.mp hS
    obtain ⟨h3, h4⟩ := e3_S_cons.mp h2
    refine ⟨lvA, ?_, hL, e3_S_cons.mpr ⟨(hf x y).2, h4⟩⟩
    rw [hi]
    show some (t, lvA, Value.int (g (Int32.ofInt x) (Int32.ofInt y)) :: r.map e3_v) = some (t, lvA, Value.int (Int32.ofInt (f x y)) :: r.map e3_v)
    rw [(hf x y).1]
  · cases h
theorem e3_P_ul1 {f : Int → Int} {g : Int64 → Int64} (hi : am_pu nL i pc lvA (st.map e3_v) = am_l1 g lvA (st.map e3_v) t) (hf : ∀ x, Int64.ofInt (f x) = g (Int64.ofInt x) ∧ e3_i64 (f x)) (hL : e3_L lv lvA) (hS : e3_S st) (h : e3_ul1 f lv st t = some (pc2, lv2, st2)) : e3_P nL i pc lvA st pc2 lv2 st2 := by
  unfold e3_ul1 at h
  split at h
  · rename_i x r
    cases h
    obtain ⟨h1, h2⟩ := e3_S_cons.mp hS
    refine ⟨lvA, ?_, hL, e3_S_cons.mpr ⟨(hf x).2, h2⟩⟩
    rw [hi]
    show some (t, lvA, Value.long (g (Int64.ofInt x)) :: r.map e3_v) = some (t, lvA, Value.long (Int64.ofInt (f x)) :: r.map e3_v)
    rw [(hf x).1]
  · cases h
theorem e3_P_ul2 {f : Int → Int → Int} {g : Int64 → Int64 → Int64} (hi : am_pu nL i pc lvA (st.map e3_v) = am_l2 g lvA (st.map e3_v) t) (hf : ∀ x y, Int64.ofInt (f x y) = g (Int64.ofInt x) (Int64.ofInt y) ∧ e3_i64 (f x y)) (hL : e3_L lv lvA) (hS : e3_S st) (h : e3_ul2 f lv st t = some (pc2, lv2, st2)) : e3_P nL i pc lvA st pc2 lv2 st2 := by
  unfold e3_ul2 at h
  split at h
  · rename_i y x r
    cases h
    obtain ⟨h1, h2⟩ := e3_S_cons.mp hS
    obtain ⟨h3, h4⟩ := e3_S_cons.mp h2
    refine ⟨lvA, ?_, hL, e3_S_cons.mpr ⟨(hf x y).2, h4⟩⟩
    rw [hi]
    show some (t, lvA, Value.long (g (Int64.ofInt x) (Int64.ofInt y)) :: r.map e3_v) = some (t, lvA, Value.long (Int64.ofInt (f x y)) :: r.map e3_v)
    rw [(hf x y).1]
  · cases h
theorem e3_P_uls {f : Int → Int → Int} {g : Int64 → Int32 → Int64} (hi : am_pu nL i pc lvA (st.map e3_v) = am_ls g lvA (st.map e3_v) t) (hf : ∀ x y, Int64.ofInt (f x y) = g (Int64.ofInt x) (Int32.ofInt y) ∧ e3_i64 (f x y)) (hL : e3_L lv lvA) (hS : e3_S st) (h : e3_uls f lv st t = some (pc2, lv2, st2)) : e3_P nL i pc lvA st pc2 lv2 st2 := by
  unfold e3_uls at h
  split at h
  · rename_i y x r
    cases h
    obtain ⟨h1, h2⟩ := e3_S_cons.mp hS
    obtain ⟨h3, h4⟩ := e3_S_cons.mp h2
    refine ⟨lvA, ?_, hL, e3_S_cons.mpr ⟨(hf x y).2, h4⟩⟩
    rw [hi]
    show some (t, lvA, Value.long (g (Int64.ofInt x) (Int32.ofInt y)) :: r.map e3_v) = some (t, lvA, Value.long (Int64.ofInt (f x y)) :: r.map e3_v)
    rw [(hf x y).1]
  · cases h
theorem e3_g1 (g : Int32 → Int32) (x : Int) : Int32.ofInt (e3_i1 g x) = g (Int32.ofInt x) ∧ e3_i32 (e3_i1 g x) := ⟨by unfold e3_i1; rw [Int32.ofInt_toInt], e3_rg32 _⟩
theorem e3_g2 (g : Int32 → Int32 → Int32) (x y : Int) : Int32.ofInt (e3_i2 g x y) = g (Int32.ofInt x) (Int32.ofInt y) ∧ e3_i32 (e3_i2 g x y) := ⟨by unfold e3_i2; rw [Int32.ofInt_toInt], e3_rg32 _⟩
theorem e3_gl2 (g : Int64 → Int64 → Int64) (x y : Int) : Int64.ofInt (e3_l2 g x y) = g (Int64.ofInt x) (Int64.ofInt y) ∧ e3_i64 (e3_l2 g x y) := ⟨by unfold e3_l2; rw [Int64.ofInt_toInt], e3_rg64 _⟩
theorem e3_gls (g : Int64 → Int32 → Int64) (x y : Int) : Int64.ofInt (e3_ls g x y) = g (Int64.ofInt x) (Int32.ofInt y) ∧ e3_i64 (e3_ls g x y) := ⟨by unfold e3_ls; rw [Int64.ofInt_toInt], e3_rg64 _⟩
theorem e3_p_ok (h : e3_p nL i pc lv st = some (pc2, lv2, st2)) (hL : e3_L lv lvA) (hS : e3_S st) : e3_P nL i pc lvA st pc2 lv2 st2 ∧ ∀ (ret : Option FieldType) (s : List Value), am_rt ret i s = none := by
  unfold e3_p at h
  split at h
  · rename_i n
    split at h
    · rename_i hn
      cases h
      have := e3_sm_ok hn
      exact ⟨⟨lvA, rfl, hL, e3_S_cons.mpr ⟨⟨by omega, by omega⟩, hS⟩⟩, fun _ _ => rfl⟩
    · cases h
  · rename_i n
    split at h
    · rename_i hn
      cases h
      have := e3_sm_ok hn
      refine ⟨⟨lvA, ?_, hL, e3_S_cons.mpr ⟨⟨by omega, by omega⟩, hS⟩⟩, fun _ _ => rfl⟩
      show some (pc + 2, lvA, Value.int (Int8.ofInt n).toInt32 :: st.map e3_v) = some (pc + 2, lvA, Value.int (Int32.ofInt n) :: st.map e3_v)
      rw [Int8.toInt32_ofInt (by show (-128 : Int) ≤ n; omega) (by show n ≤ (127 : Int); omega)]
    · cases h
  · rename_i n
    split at h
    · rename_i hn
      cases h
      have := e3_sm_ok hn
      refine ⟨⟨lvA, ?_, hL, e3_S_cons.mpr ⟨⟨by omega, by omega⟩, hS⟩⟩, fun _ _ => rfl⟩
      show some (pc + 3, lvA, Value.int (Int16.ofInt n).toInt32 :: st.map e3_v) = some (pc + 3, lvA, Value.int (Int32.ofInt n) :: st.map e3_v)
      rw [Int16.toInt32_ofInt (by show (-32768 : Int) ≤ n; omega) (by show n ≤ (32767 : Int); omega)]
    · cases h
  · rename_i n
    cases h
    refine ⟨⟨lvA, ?_, hL, e3_S_cons.mpr ⟨⟨by omega, by have := n.isLt; omega⟩, hS⟩⟩, fun _ _ => rfl⟩
    show some (pc + 1, lvA, Value.long (Int64.ofNat (n : Nat)) :: st.map e3_v) = some (pc + 1, lvA, Value.long (Int64.ofInt ((n : Nat) : Int)) :: st.map e3_v)
    rw [Int64.ofInt_eq_ofNat]
  · cases h
    exact ⟨⟨lvA, rfl, hL, e3_S_cons.mpr ⟨(by show (-1 : Int) ≤ -1; omega), hS⟩⟩, fun _ _ => rfl⟩
  · exact ⟨e3_P_i rfl hL hS h, fun _ _ => rfl⟩
  · exact ⟨e3_P_i rfl hL hS h, fun _ _ => rfl⟩
  · exact ⟨e3_P_l rfl hL hS h, fun _ _ => rfl⟩
  · exact ⟨e3_P_l rfl hL hS h, fun _ _ => rfl⟩
  · exact ⟨e3_P_a rfl hL hS h, fun _ _ => rfl⟩
  · exact ⟨e3_P_a rfl hL hS h, fun _ _ => rfl⟩
  · exact ⟨e3_P_si rfl hL hS h, fun _ _ => rfl⟩
  · exact ⟨e3_P_si rfl hL hS h, fun _ _ => rfl⟩
  · exact ⟨e3_P_sl rfl hL hS h, fun _ _ => rfl⟩
  · exact ⟨e3_P_sl rfl hL hS h, fun _ _ => rfl⟩
  · exact ⟨e3_P_sa rfl hL hS h, fun _ _ => rfl⟩
  · exact ⟨e3_P_sa rfl hL hS h, fun _ _ => rfl⟩
  · exact ⟨e3_P_inc rfl hL hS h, fun _ _ => rfl⟩
  · exact ⟨e3_P_u2 rfl (fun x y => ⟨by rw [e3_ofw32, Int32.ofInt_add], e3_w32_ok _⟩) hL hS h, fun _ _ => rfl⟩
  · exact ⟨e3_P_u2 rfl (fun x y => ⟨by rw [e3_ofw32, Int32.ofInt_sub], e3_w32_ok _⟩) hL hS h, fun _ _ => rfl⟩
  · exact ⟨e3_P_u2 rfl (fun x y => ⟨by rw [e3_ofw32, Int32.ofInt_mul], e3_w32_ok _⟩) hL hS h, fun _ _ => rfl⟩
  · exact ⟨e3_P_u2 rfl (e3_g2 _) hL hS h, fun _ _ => rfl⟩
  · exact ⟨e3_P_u2 rfl (e3_g2 _) hL hS h, fun _ _ => rfl⟩
  · exact ⟨e3_P_u2 rfl (e3_g2 _) hL hS h, fun _ _ => rfl⟩
  · exact ⟨e3_P_u2 rfl (e3_g2 _) hL hS h, fun _ _ => rfl⟩
  · exact ⟨e3_P_u2 rfl (e3_g2 _) hL hS h, fun _ _ => rfl⟩
  · exact ⟨e3_P_u2 rfl (e3_g2 _) hL hS h, fun _ _ => rfl⟩
  · exact ⟨e3_P_u1 rfl (fun x => ⟨by rw [e3_ofw32, Int32.ofInt_neg], e3_w32_ok _⟩) hL hS h, fun _ _ => rfl⟩
  · exact ⟨e3_P_u1 rfl (e3_g1 _) hL hS h, fun _ _ => rfl⟩
  · exact ⟨e3_P_u1 rfl (e3_g1 _) hL hS h, fun _ _ => rfl⟩
  · exact ⟨e3_P_ul2 rfl (fun x y => ⟨by rw [e3_ofw64, Int64.ofInt_add], e3_w64_ok _⟩) hL hS h, fun _ _ => rfl⟩
  · exact ⟨e3_P_ul2 rfl (fun x y => ⟨by rw [e3_ofw64, Int64.ofInt_sub], e3_w64_ok _⟩) hL hS h, fun _ _ => rfl⟩
  · exact ⟨e3_P_ul2 rfl (fun x y => ⟨by rw [e3_ofw64, Int64.ofInt_mul], e3_w64_ok _⟩) hL hS h, fun _ _ => rfl⟩
  · exact ⟨e3_P_ul2 rfl (e3_gl2 _) hL hS h, fun _ _ => rfl⟩
  · exact ⟨e3_P_ul2 rfl (e3_gl2 _) hL hS h, fun _ _ => rfl⟩
  · exact ⟨e3_P_ul2 rfl (e3_gl2 _) hL hS h, fun _ _ => rfl⟩
  · exact ⟨e3_P_ul1 rfl (fun x => ⟨by rw [e3_ofw64, Int64.ofInt_neg], e3_w64_ok _⟩) hL hS h, fun _ _ => rfl⟩
  · exact ⟨e3_P_uls rfl (e3_gls _) hL hS h, fun _ _ => rfl⟩
  · exact ⟨e3_P_uls rfl (e3_gls _) hL hS h, fun _ _ => rfl⟩
  · exact ⟨e3_P_uls rfl (e3_gls _) hL hS h, fun _ _ => rfl⟩
  · split at h
    · rename_i x r
      cases h
      obtain ⟨h1, h2⟩ := e3_S_cons.mp hS
      refine ⟨⟨lvA, ?_, hL, e3_S_cons.mpr ⟨⟨by have := h1.1; omega, by have := h1.2; omega⟩, h2⟩⟩, fun _ _ => rfl⟩
      show some (pc + 1, lvA, Value.long (Int32.ofInt x).toInt64 :: r.map e3_v) = some (pc + 1, lvA, Value.long (Int64.ofInt x) :: r.map e3_v)
      rw [Int32.toInt64_ofInt h1.1 h1.2]
    · cases h
  · split at h
    · rename_i x r
      cases h
      obtain ⟨h1, h2⟩ := e3_S_cons.mp hS
      refine ⟨⟨lvA, ?_, hL, e3_S_cons.mpr ⟨e3_w32_ok _, h2⟩⟩, fun _ _ => rfl⟩
      show some (pc + 1, lvA, Value.int (Int64.ofInt x).toInt32 :: r.map e3_v) = some (pc + 1, lvA, Value.int (Int32.ofInt (e3_w32 x)) :: r.map e3_v)
      rw [e3_ofw32, Int64.toInt32_ofInt]
    · cases h
  · split at h
    · rename_i y x r
      cases h
      obtain ⟨h1, h2⟩ := e3_S_cons.mp hS
      obtain ⟨h3, h4⟩ := e3_S_cons.mp h2
      have hr : e3_i32 (e3_cmp x y) := by unfold e3_cmp; split; exact ⟨by omega, by omega⟩; split; exact ⟨by omega, by omega⟩; exact ⟨by omega, by omega⟩
      refine ⟨⟨lvA, ?_, hL, e3_S_cons.mpr ⟨hr, h4⟩⟩, fun _ _ => rfl⟩
      show some (pc + 1, lvA, Value.int (lg_cmp (Int64.ofInt x) (Int64.ofInt y)) :: r.map e3_v) = some (pc + 1, lvA, Value.int (Int32.ofInt (e3_cmp x y)) :: r.map e3_v)
      have e : lg_cmp (Int64.ofInt x) (Int64.ofInt y) = Int32.ofInt (e3_cmp x y) := by
        unfold lg_cmp e3_cmp
        have a1 : (Int64.ofInt x > Int64.ofInt y) ↔ y < x := e3_lt64 h1 h3
        have a2 := e3_eq64 h3 h1
        by_cases c1 : y < x
        · rw [if_pos (a1.mpr c1), if_pos c1]; rfl
        · rw [if_neg (fun z => c1 (a1.mp z)), if_neg c1]
          by_cases c2 : x = y
          · rw [if_pos (a2.mpr c2), if_pos c2]; rfl
          · rw [if_neg (fun z => c2 (a2.mp z)), if_neg c2]; rfl
      rw [e]
    · cases h
  · split at h
    · rename_i c x r
      split at h
      · rename_i hc
        cases h
        obtain ⟨h1, h2⟩ := e3_S_cons.mp hS
        refine ⟨⟨lvA, ?_, hL, e3_S_cons.mpr ⟨h1, hS⟩⟩, fun _ _ => rfl⟩
        show (if (e3_v (c, x)).category = 1 then some (pc + 1, lvA, e3_v (c, x) :: e3_v (c, x) :: r.map e3_v) else none) = _
        rw [if_pos (e3_c1_ok hc)]
        rfl
      · cases h
    · cases h
  · split at h
    · rename_i c x r
      split at h
      · rename_i hc
        cases h
        obtain ⟨h1, h2⟩ := e3_S_cons.mp hS
        refine ⟨⟨lvA, ?_, hL, h2⟩, fun _ _ => rfl⟩
        show (if (e3_v (c, x)).category = 1 then some (pc + 1, lvA, st2.map e3_v) else none) = _
        rw [if_pos (e3_c1_ok hc)]
      · cases h
    · cases h
  · split at h
    · rename_i c x d y r
      split at h
      · rename_i hc
        simp only [Bool.and_eq_true] at hc
        cases h
        obtain ⟨h1, h2⟩ := e3_S_cons.mp hS
        obtain ⟨h3, h4⟩ := e3_S_cons.mp h2
        refine ⟨⟨lvA, ?_, hL, e3_S_cons.mpr ⟨h1, e3_S_cons.mpr ⟨h3, e3_S_cons.mpr ⟨h1, h4⟩⟩⟩⟩, fun _ _ => rfl⟩
        show (if (e3_v (c, x)).category = 1 ∧ (e3_v (d, y)).category = 1 then some (pc + 1, lvA, e3_v (c, x) :: e3_v (d, y) :: e3_v (c, x) :: r.map e3_v) else none) = _
        rw [if_pos ⟨e3_c1_ok hc.1, e3_c1_ok hc.2⟩]
        rfl
      · cases h
    · cases h
  · split at h
    · rename_i c x d y r
      split at h
      · rename_i hc
        simp only [Bool.and_eq_true] at hc
        cases h
        obtain ⟨h1, h2⟩ := e3_S_cons.mp hS
        obtain ⟨h3, h4⟩ := e3_S_cons.mp h2
        refine ⟨⟨lvA, ?_, hL, e3_S_cons.mpr ⟨h1, e3_S_cons.mpr ⟨h3, e3_S_cons.mpr ⟨h1, e3_S_cons.mpr ⟨h3, h4⟩⟩⟩⟩⟩, fun _ _ => rfl⟩
        show (if (e3_v (c, x)).category = 1 ∧ (e3_v (d, y)).category = 1 then some (pc + 1, lvA, e3_v (c, x) :: e3_v (d, y) :: e3_v (c, x) :: e3_v (d, y) :: r.map e3_v) else none) = _
        rw [if_pos ⟨e3_c1_ok hc.1, e3_c1_ok hc.2⟩]
        rfl
      · cases h
    · cases h
  · rename_i off
    split at h
    · rename_i t ht
      cases h
      refine ⟨⟨lvA, ?_, hL, hS⟩, fun _ _ => rfl⟩
      show (match am_jp pc off with | some t => some (t, lvA, st.map e3_v) | none => none) = _
      rw [ht]
    · cases h
  · cases h
end E3P
