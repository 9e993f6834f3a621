/-! THE CLAIM OUT OF ONE WALK OF THE LAW'S BODY. Your part is whole_start (and what it stands on); all else here is the same for every law, but numbers. -/
def R_law : String := "LetterPostLaw"
def lw_P (b : Addr) (xs : List Int32) (args : Array Value) (s : State) : Prop := args = #[.ref b] ∧ s.IntsAt b xs ∧ xs.length ≤ 3072 ∧ (Jvm.Cond.and given_1 narrow_1).before args s = true
def lw_Q (_ : Array Value) (s : State) (o : Outcome) (t : State) : Prop := o = .returned (some (.int 1)) ∧ Framed s o t [] 600000 7302250
def lw_Z (below : List Frame) (a : Array Value) (s : State) : State → Prop := fun t => ∃ o, t.status = .running ∧ Ended t below o ∧ lw_Q a s o t
/-- the law's own end, with 1 on the stack, nothing written that was there before, its room as the claim has it -/
theorem lw_ret {p : Program} {l : Launch} {e : Env} {s : State} {m : MethodId} {below : List Frame} {meth : Method} {c : Code} {b : Nat} (hx : p.tables.exec = Jvm.exec) (hb : c.code = code) (hr : meth.sig.returnType = ret) (hlocks : meth.locks = false) {pc : Nat} {H : Heap} {ls : Array Slot} (hdg : decode code pc = .ok (.ireturn, 1)) : W p l e room_1 s m #[Value.ref b] below meth c H [] 600000 7302250 (lw_Z below #[Value.ref b] s) (F0 m pc ls [.int 1]) := by
  intro T hT X
  obtain ⟨fs, hret, hrun, hended, hW, hframe⟩ := X.leave (v := some (.int 1)) (hlocks := hlocks) (fun h => by rw [hr] at h; cases h)
  have hmeth' : T.vm.method? m = some meth := X.method'
  refine ⟨T.setFrames fs, ?_, .returned (some (.int 1)), hrun, hended, rfl, ⟨_, rfl⟩, hW, hframe⟩
  jvm_step X.here [X.here.top, hx, hb, hdg, hmeth', hr, ret, narrow_b1]
  (try refine ⟨rfl, ?_⟩); (try refine ⟨rfl, ?_⟩)
  first | (intro acts; rw [hret _ acts rfl rfl rfl]) | rw [hret _ _ rfl rfl rfl]
  exact Steps.refl _
/-- what holds at the law's entry: the machine, the code, the tables' words (any of lw_tbl by 'hts w (by decide +kernel)'), the script of L ints xs at the cell b, what the Statement gives of the start (any of its parts by flat_of_before) -/
def lw_At (p : Program) (s : State) (m : MethodId) (meth : Method) (c : Code) (b L : Nat) (xs : Nat → Int32) : Prop :=
  p.tables.exec = Jvm.exec ∧ c.code = code ∧ meth.sig.returnType = ret ∧ c.maxLocals = 4 ∧ s.vm.findClass R_law = some m.cls ∧ (∀ w ∈ lw_tbl, w.before #[Value.ref b] s = true) ∧ va_X b L xs s s.heap ∧ b < s.heap.size ∧ meth.locks = false ∧ (Jvm.Cond.and given_1 narrow_1).before #[Value.ref b] s = true
def tb_g (b t N : Nat) : Nat → Nat := fun i => match i with
  | 0 => b
  | 1 => t
  | i + 2 => N + i
theorem tb_Gi {b t N : Nat} (hb : b < N) (ht : t < N) (hbt : b ≠ t) : am_G (tb_g b t N) N 2 := by
  refine ⟨fun i => ?_, fun x y h => ?_⟩
  · rw [Nat.add_comm]; rfl
  · match x, y, h with
    | 0, 0, _ => rfl
    | 0, 1, h => exact absurd h hbt
    | 0, y + 2, h => exact absurd (show b = N + y from h) (by omega)
    | 1, 0, h => exact absurd (show t = b from h) (fun z => hbt z.symm)
    | 1, 1, _ => rfl
    | 1, y + 2, h => exact absurd (show t = N + y from h) (by omega)
    | x + 2, 0, h => exact absurd (show N + x = b from h) (by omega)
    | x + 2, 1, h => exact absurd (show N + x = t from h) (by omega)
    | x + 2, y + 2, h => have : N + x = N + y := h; omega
theorem tb_arr {s : State} {args : Array Value} (hts : ∀ w ∈ lw_tbl, w.before args s = true) : ∀ t : Nat, ∃ cA : ClassId, ∀ y, tb_ty[t]? = some y → ArrOfT s cA y ∧ va_RA s cA y := by
  have prim : ∀ y : FieldType, (Cond.arrayClass y).before args s = true → (∀ cA, s.vm.findClass ("[" ++ y.toString) = some cA → va_RA s cA y) → ∃ cA : ClassId, ArrOfT s cA y ∧ va_RA s cA y := by
    intro y h hr
    obtain ⟨cA, kA, comp, h1, h2, h3⟩ := Cond.arrayClass_spec h
    exact ⟨cA, fun n z => ⟨fun k h => (by cases h), kA, h2, comp, h3⟩, hr cA h1⟩
  have objs : ∀ C : String, (Cond.arrayOver (.object C)).before args s = true → ∃ cA : ClassId, ArrOfT s cA (.object C) ∧ va_RA s cA (.object C) := by
    intro C h
    obtain ⟨comp, cA, kA, h1, h2, h3, h4, h5⟩ := Cond.arrayOver_spec h
    exact ⟨cA, fun n z => ⟨fun k h => (by cases h), kA, h3, comp, h4⟩, kA, comp, h3, h4, h1, h5⟩
  intro t
  match t with
  | 0 => obtain ⟨cA, h⟩ := prim .int (hts _ (List.mem_of_getElem? (i := 233) (by decide +kernel))) (fun _ h => h); exact ⟨cA, fun y hy => by cases hy; exact h⟩
  | 1 => obtain ⟨cA, h⟩ := prim .long (hts _ (List.mem_of_getElem? (i := 234) (by decide +kernel))) (fun _ h => h); exact ⟨cA, fun y hy => by cases hy; exact h⟩
  | 2 => obtain ⟨cA, h⟩ := prim .byte (hts _ (List.mem_of_getElem? (i := 232) (by decide +kernel))) (fun _ h => h); exact ⟨cA, fun y hy => by cases hy; exact h⟩
  | 3 => obtain ⟨cA, h⟩ := prim .boolean (hts _ (List.mem_of_getElem? (i := 263) (by decide +kernel))) (fun _ h => h); exact ⟨cA, fun y hy => by cases hy; exact h⟩
  | 4 => obtain ⟨cA, h⟩ := objs "LetterPost$Function" (hts _ (List.mem_of_getElem? (i := 271) (by decide +kernel))); exact ⟨cA, fun y hy => by cases hy; exact h⟩
  | 5 => obtain ⟨cA, h⟩ := objs "LetterPost$Rule" (hts _ (List.mem_of_getElem? (i := 721) (by decide +kernel))); exact ⟨cA, fun y hy => by cases hy; exact h⟩
  | 6 => obtain ⟨cA, h⟩ := objs "LetterPost$Row" (hts _ (List.mem_of_getElem? (i := 723) (by decide +kernel))); exact ⟨cA, fun y hy => by cases hy; exact h⟩
  | 7 => obtain ⟨cA, h⟩ := objs "LetterPost$Pattern" (hts _ (List.mem_of_getElem? (i := 1133) (by decide +kernel))); exact ⟨cA, fun y hy => by cases hy; exact h⟩
  | _ + 8 => exact ⟨0, fun y hy => by cases hy⟩
theorem tb_over {s : State} {args : Array Value} (hts : ∀ w ∈ lw_tbl, w.before args s = true) : ∀ (t : Nat) (C : String), tb_ty[t]? = some (.object C) → va_AO C s := by
  intro t C h
  match t, h with
  | 0, h => cases h
  | 1, h => cases h
  | 2, h => cases h
  | 3, h => cases h
  | 4, h => cases h; exact va_AO.of (C := "LetterPost$Function") (hts _ (List.mem_of_getElem? (i := 271) (by decide +kernel)))
  | 5, h => cases h; exact va_AO.of (C := "LetterPost$Rule") (hts _ (List.mem_of_getElem? (i := 721) (by decide +kernel)))
  | 6, h => cases h; exact va_AO.of (C := "LetterPost$Row") (hts _ (List.mem_of_getElem? (i := 723) (by decide +kernel)))
  | 7, h => cases h; exact va_AO.of (C := "LetterPost$Pattern") (hts _ (List.mem_of_getElem? (i := 1133) (by decide +kernel)))
  | _ + 8, h => cases h
theorem tb_nst {s : State} {args : Array Value} (hts : ∀ w ∈ lw_tbl, w.before args s = true) : am_Nst tb_nest s := by
  intro own idx y host h
  have h1 : ∀ w ∈ tb_nest, w ∈ lw_tbl := by
    intro w hw
    simp only [tb_nest, List.mem_cons, List.not_mem_nil, or_false] at hw
    rcases hw with rfl | rfl | rfl | rfl
    · exact List.mem_of_getElem? (i := 193) (by decide +kernel)
    · exact List.mem_of_getElem? (i := 237) (by decide +kernel)
    · exact List.mem_of_getElem? (i := 308) (by decide +kernel)
    · exact List.mem_of_getElem? (i := 725) (by decide +kernel)
  exact va_Nw.of rfl (hts _ (h1 _ h))
theorem tb_cls {s : State} {args : Array Value} (hts : ∀ w ∈ lw_tbl, w.before args s = true) : ∀ c : Nat, ∃ q : ClassId × (Nat → Nat), ∀ r, tb_cl[c]? = some r → u_Kn s r.1 r.2.1 r.2.2 q.1 q.2 := by
  intro c
  cases hc : tb_cl[c]? with
  | none => exact ⟨(0, fun _ => 0), fun r h => by cases h⟩
  | some r =>
    obtain ⟨C, TT, N⟩ := r
    obtain ⟨h1, -, -, -, h2, -⟩ := tb_okC c C TT N hc
    have hts2 : ∀ w ∈ tb_Ts, w.before args s = true := fun w hw => hts w (List.mem_filter.mp hw).1
    obtain ⟨cC, iS, hK⟩ := u_known hts2 h1 (hts2 _ h2)
    exact ⟨(cC, iS), fun r h => by cases h; exact hK⟩
theorem tb_two {s : State} {cell : Cell} (h1 : s.isArrayOf cell .int) (h2 : s.isArrayOf cell .long) : False := by
  obtain ⟨-, k1, e1, c1, f1⟩ := h1
  obtain ⟨-, k2, e2, c2, f2⟩ := h2
  cases e1.symm.trans e2
  rw [f1] at f2
  cases f2
/-- the law, from its entry, out of a run of the own machine -/
theorem am_begin {p : Program} {e : Env} {s : State} {m : MethodId} {below : List Frame} {meth : Method} {c : Code} (l : Launch) {b L : Nat} {xs : Nat → Int32} (C0 : lw_At p s m meth c b L xs) (hLL : L < 2 ^ 31) {h2 : List am_E} (hev : am_ev tbT (tb_ro L xs) 2048 84000 0 0 [(0, .ref 0)] [] [] (some (.int 1)) h2) (hz1 : h2.length ≤ 600000) (hz2 : am_sl h2 ≤ 7302250) : W p l e room_1 s m #[Value.ref b] below meth c s.heap [] 0 0 (lw_Z below #[Value.ref b] s) (entryFrame m ([Value.ref b] : List Value).toArray 4) := by
  obtain ⟨hx, hb, hr, hml, hown, hts, hX, hbl, hlocks, hgv⟩ := C0
  have hs := flat_of_before _ hgv
  have hA : ∀ a : Nat, a < s.heap.size → ¬ (fun q : Nat => s.heap.size ≤ q) a := fun a h => Nat.not_le.mpr h
  obtain ⟨t, ht, hT⟩ := va_Tof (tm := .static "LetterPost$Tokens" "WORDS" "[J") (ty := .long) (N := 11) (f := fun j => .long (tb_words j)) (A := fun q : Nat => s.heap.size ≤ q) (args := #[Value.ref b]) (s := s) (by decide) (hs _ (by decide +kernel)) (va_eqt (hs _ (by decide +kernel))) (fun j hj => by
    match j, hj with
    | 0, _ => exact va_eqtl (hs _ (by decide +kernel))
    | 1, _ => exact va_eqtl (hs _ (by decide +kernel))
    | 2, _ => exact va_eqtl (hs _ (by decide +kernel))
    | 3, _ => exact va_eqtl (hs _ (by decide +kernel))
    | 4, _ => exact va_eqtl (hs _ (by decide +kernel))
    | 5, _ => exact va_eqtl (hs _ (by decide +kernel))
    | 6, _ => exact va_eqtl (hs _ (by decide +kernel))
    | 7, _ => exact va_eqtl (hs _ (by decide +kernel))
    | 8, _ => exact va_eqtl (hs _ (by decide +kernel))
    | 9, _ => exact va_eqtl (hs _ (by decide +kernel))
    | 10, _ => exact va_eqtl (hs _ (by decide +kernel))
    | j + 11, hj => exact absurd hj (by omega)) hA
  have hZ : va_Z "LetterPost$Tokens" "WORDS" "[J" (.ref t) (fun q : Nat => s.heap.size ≤ q) s s.heap := va_Zref (hts _ (List.mem_of_getElem? (i := 553) (by decide +kernel))) (hts _ (List.mem_of_getElem? (i := 161) (by decide +kernel))) ht hA
  have htl : t < s.heap.size := by
    obtain ⟨cell, q1, -⟩ := hT
    exact (Array.getElem?_eq_some_iff.mp q1).1
  have hX0 := hX
  obtain ⟨scr, x1, x2, x3, x4, x5⟩ := hX
  have hbt : b ≠ t := by
    intro z
    obtain ⟨cell, q1, q2, -⟩ := hT
    rw [← z, x1] at q1
    cases q1
    exact tb_two x2 q2
  have hTb : va_T .int b L (fun j => .int (xs j)) (fun q : Nat => s.heap.size ≤ q) s s.heap := ⟨scr, x1, x2, x3, by omega, by rw [x4], x5, hA b hbl⟩
  have hG := tb_Gi hbl htl hbt
  have hcl := tb_cls hts
  have har := tb_arr hts
  let D : va_G := (fun c => (Classical.choose (hcl c)).1, fun c => (Classical.choose (hcl c)).2)
  let dT : Nat → ClassId := fun t => Classical.choose (har t)
  have hK : am_K tbT D dT s := by
    refine ⟨⟨fun c q hq => Classical.choose_spec (hcl c) q hq, fun k q hq => ?_⟩, tb_over hts⟩
    have hq : ((am_ty tbT).mapIdx (fun t y => (dT t, y)))[k]? = some q := hq
    rw [List.getElem?_mapIdx] at hq
    cases hy : (am_ty tbT)[k]? with
    | none => rw [hy] at hq; cases hq
    | some y =>
      rw [hy] at hq
      cases hq
      exact Classical.choose_spec (har k) y hy
  obtain ⟨adK, adV, hS1, hS2⟩ := vk_Sof (N := 1) (tm := fun _ => .string "LetterPost$Tokens" 65) (len := [17]) (byt := [am_ixl]) (A := fun q : Nat => s.heap.size ≤ q) (args := #[Value.ref b]) (s := s) (fun i hi => by
    match i, hi with
    | 0, _ => decide) (fun i _ => hs _ (by decide +kernel)) (fun i _ => hs _ (by decide +kernel)) (fun i _ => hs _ (by decide +kernel)) (fun i hi => by
    match i, hi with
    | 0, _ => exact hs _ (by decide +kernel)) (fun i hi j hj => by
    match i, hi, j, hj with
    | 0, _, 0, _ => exact hs _ (by decide +kernel)
    | 0, _, 1, _ => exact hs _ (by decide +kernel)
    | 0, _, 2, _ => exact hs _ (by decide +kernel)
    | 0, _, 3, _ => exact hs _ (by decide +kernel)
    | 0, _, 4, _ => exact hs _ (by decide +kernel)
    | 0, _, 5, _ => exact hs _ (by decide +kernel)
    | 0, _, 6, _ => exact hs _ (by decide +kernel)
    | 0, _, 7, _ => exact hs _ (by decide +kernel)
    | 0, _, 8, _ => exact hs _ (by decide +kernel)
    | 0, _, 9, _ => exact hs _ (by decide +kernel)
    | 0, _, 10, _ => exact hs _ (by decide +kernel)
    | 0, _, 11, _ => exact hs _ (by decide +kernel)
    | 0, _, 12, _ => exact hs _ (by decide +kernel)
    | 0, _, 13, _ => exact hs _ (by decide +kernel)
    | 0, _, 14, _ => exact hs _ (by decide +kernel)
    | 0, _, 15, _ => exact hs _ (by decide +kernel)
    | 0, _, 16, _ => exact hs _ (by decide +kernel)
    | 0, _, j + 17, hj => exact absurd hj (Nat.not_lt.mpr (Nat.le_add_left 17 j))) (fun i j hi hj hne => absurd hne (by omega)) hA
  have hSt : am_ST s.heap.size s := ⟨⟨adK 0, adV 0, vk_R.of (hts _ (List.mem_of_getElem? (i := 563) (by decide +kernel))) (hS2 0 (by decide)), ⟨fun i hi => by
    match i, hi with
    | 0, _ => exact hS1.1 0 (by decide), fun i j hi hj _ => by omega⟩⟩, va_Zof (hts _ (List.mem_of_getElem? (i := 577) (by decide +kernel))) (hts _ (List.mem_of_getElem? (i := 169) (by decide +kernel))) (va_eqi (hs _ (by decide +kernel))) hA⟩
  have hRO : am_RO tbT (tb_g b t s.heap.size) s.heap.size (tb_ro L xs) s := by
    refine ⟨fun i tt n x y h1 h2 => ?_, fun q hq => ?_, hSt⟩
    · match i, h1 with
      | 0, h1 => cases h1; cases h2; exact hTb
      | 1, h1 => cases h1; cases h2; exact hT
      | i + 2, h1 => cases h1
    · have hq : q ∈ tb_sx := hq
      simp only [tb_sx, List.mem_cons, List.not_mem_nil, or_false] at hq
      subst hq
      exact hZ
  have hW : am_W tbT D dT (tb_g b t s.heap.size) s.heap.size (tb_ro L xs).length [] s.heap := ⟨rfl, fun k q h => by cases h⟩
  have hl := lv_entry ([.ref b]) (n := 4) (Nat.le_of_ble_eq_true rfl)
  rw [lg_entry_eq]
  generalize (lg_sl ([.ref b]) ++ List.replicate (4 - (lg_sl ([.ref b])).length) Slot.unset).toArray = ls at hl ⊢
  obtain ⟨n, hn⟩ := hev
  refine am_sound (Ts := tb_Ts) (Ls := tb_nest) (D := D) (dT := dT) (g := tb_g b t s.heap.size) (N := s.heap.size) (l := l) tb_okI tb_okM am_gd_Ts (sx_Six am_gd_Ts sx_in tb_h6) n _ _ 0 0 [(0, .ref 0)] [] [] _ h2 hn (M := tbM0) (cells := 0) (slots := 0) ⟨hx, hb, hml, hown, fun w hw => hts w (List.mem_filter.mp hw).1, fun z => absurd z (by decide), rfl, hK, hRO, Nat.le_refl _, hG, tb_ok⟩ (tb_nst hts) hW va_S.rf rfl hl (Nat.le_of_ble_eq_true rfl) (Nat.le_of_ble_eq_true rfl) (by show 0 + h2.length ≤ 600000 + 0; omega) (by show 0 + am_sl h2 ≤ 7302250 + 0; omega) ?_
  intro H3 locs3 cells3 slots3 pc3 ls3 st3 i len hW3 hS3 hE3 hsl3 hd3 hln3 hrt3
  refine va_forget (fun q hq => hS3.2.2 q hq) ?_
  have e1 := hW3.1
  have e2 : am_sl ([] : List am_E) = 0 := rfl
  refine W.widen (k := 600000) (n := 7302250) (by omega) (by omega) ?_
  have key : i = .ireturn ∧ st3 = [.int 1] := by
    have hrt3 : am_rt (some .boolean) i st3 = some (some (.int 1)) := hrt3
    unfold am_rt at hrt3
    split at hrt3
    · rename_i v
      simp only at hrt3
      split at hrt3
      · cases hrt3; exact ⟨rfl, rfl⟩
      · cases hrt3
    all_goals first | (simp only at hrt3; cases hrt3; done) | cases hrt3
  obtain ⟨rfl, rfl⟩ := key
  exact lw_ret hx hb hr hlocks (am_le (n := 1) hln3 rfl (by decide) hd3)
