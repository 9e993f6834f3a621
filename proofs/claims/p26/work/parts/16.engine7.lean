def am_ct (st : List Value) : Nat := (st.map (fun v => v.category)).sum
theorem am_ct_map (g : Nat → Nat) (st : List Value) : ((st.map (am_v g)).map (fun v => v.category)).sum = am_ct st := by
  unfold am_ct
  rw [List.map_map]
  congr 1
  apply List.map_congr_left
  intro v _
  exact am_v_cat g v
theorem am_sl_len (vs : List Value) : (lg_sl vs).length = am_ct vs := by
  unfold lg_sl am_ct
  induction vs with
  | nil => rfl
  | cons v vs ih =>
    rw [List.flatMap_cons, List.length_append, ih, List.map_cons, List.sum_cons]
    congr 1
    rcases lv_cat v with h | h <;> simp [h]
def am_rt (ret : Option FieldType) (i : Instr) (st : List Value) : Option (Option Value) := match i, st with
  | .ireturn, [.int v] => (match ret with
    | some .int => some (some (.int v))
    | some .boolean => if v = 0 ∨ v = 1 then some (some (.int v)) else none
    | _ => none)
  | .lreturn, [.long v] => (match ret with
    | some .long => some (some (.long v))
    | _ => none)
  | .areturn, [.ref a] => (match ret with
    | some (.object _) => some (some (.ref a))
    | some (.array _) => some (some (.ref a))
    | _ => none)
  | .areturn, [.null] => (match ret with
    | some (.object _) => some (some .null)
    | some (.array _) => some (some .null)
    | _ => none)
  | .return_, [] => (match ret with
    | none => some none
    | _ => none)
  | _, _ => none
def am_ca (T : am_T) (ro : List am_E) (m : Nat) (i : Instr) (st : List Value) (h : List am_E) : Option (Nat × am_M × List Value × List Value) := match i with
  | .invokestatic idx => (match am_ml T m idx with
    | some (k, 0, _) => (match am_mt T k with
      | some M => if M.2.2.2.2 ≤ st.length ∧ am_ct (st.drop M.2.2.2.2) ≤ 8 then some (k, M, (st.take M.2.2.2.2).reverse, st.drop M.2.2.2.2) else none
      | none => none)
    | _ => none)
  | .invokevirtual idx => (match am_ml T m idx with
    | some (k, 1, ci) => (match am_mt T k with
      | some M => (match st.drop M.2.2.2.2 with
        | .ref b :: rest => (match am_dy ro h b with
          | some (.inr (cj, _)) => if cj = ci ∧ M.2.2.2.2 ≤ st.length ∧ am_ct rest ≤ 8 then some (k, M, .ref b :: (st.take M.2.2.2.2).reverse, rest) else none
          | _ => none)
        | _ => none)
      | none => none)
    | _ => none)
  | .invokespecial idx => (match am_ml T m idx with
    | some (k, kd, _) => if kd = 2 ∨ kd = 3 then (match am_mt T k with
      | some M => (match st.drop M.2.2.2.2 with
        | .ref b :: rest => if M.2.2.2.2 ≤ st.length ∧ am_ct rest ≤ 8 then some (k, M, .ref b :: (st.take M.2.2.2.2).reverse, rest) else none
        | _ => none)
      | none => none) else none
    | _ => none)
  | _ => none
def am_nv (T : am_T) (ro : List am_E) (f w m : Nat) (i : Instr) (st : List Value) (h : List am_E) : Option am_Y := match i with
  | .invokespecial idx => (match am_ml T m idx, st with
    | some (_, 4, _), .ref _ :: r => if 1 ≤ f ∧ am_ct r + 12 ≤ w then some (r, h) else none
    | _, _ => none)
  | .invokestatic idx => (match am_ml T m idx, st with
    | some (_, 5, _), .int n :: .int dp :: .ref a :: .int sp :: .ref a0 :: r => (match am_dy ro h a0, am_dy ro h a with
      | some (.inl (t0, n0, .inl f0)), some (.inl (t1, n1, .inl f1)) => if t0 = 0 ∧ t1 = 0 ∧ ¬ sp < 0 ∧ ¬ dp < 0 ∧ ¬ n < 0 ∧ sp.toNatClampNeg + n.toNatClampNeg ≤ n0 ∧ dp.toNatClampNeg + n.toNatClampNeg ≤ n1 ∧ 1 ≤ f ∧ am_ct r + (nativeFrameWords "java/lang/System" "arraycopy" 5 + 11) ≤ w then some (r, am_up ro h a (.inl (t1, n1, .inl (va_cpy f0 f1 sp.toNatClampNeg dp.toNatClampNeg n.toNatClampNeg)))) else none
      | _, _ => none)
    | _, _ => none)
  | _ => none
/-- indexOf on the constant of the signs: four instructions at once -/
def am_sq (T : am_T) (m : Nat) (i : Instr) (lv : List (Nat × Value)) : Option Int32 := match i with
  | .ldc idx => (match am_ml T m idx, am_ld lv 2 with
    | some (_, 6, _), some (.int x) => some (am_ix x)
    | _, _ => none)
  | _ => none
/-- the machine of one's own: n steps at most, f frames and w words left -/
noncomputable def am_go (T : am_T) (ro : List am_E) (n : Nat) : Nat → Nat → Nat → Nat → List (Nat × Value) → List Value → List am_E → Option (Option Value × List am_E) :=
  Nat.rec (fun _ _ _ _ _ _ _ => none) (fun _ ih f w m pc lv st h =>
    match am_in T m pc, am_mt T m with
    | some (i, _), some M => (match am_rt M.2.2.2.1 i st with
      | some r => some (r, h)
      | none => (match am_pu M.2.2.1 i pc lv st with
        | some (pc2, lv2, st2) => ih f w m pc2 lv2 st2 h
        | none => (match am_hp T ro m i st h with
          | some (st2, h2) => ih f w m (pc + am_ln i) lv st2 h2
          | none => (match am_nv T ro f w m i st h with
            | some (st2, h2) => ih f w m (pc + 3) lv st2 h2
            | none => (match am_ca T ro m i st h with
              | some (k, M2, as, rest) => if 1 ≤ f ∧ 19 + M2.2.2.1 ≤ w ∧ am_ct as ≤ M2.2.2.1 then (match ih (f - 1) (w - (19 + M2.2.2.1)) k 0 (lv_args 0 as) [] h with
                | some (r, h2) => ih f w m (pc + 3) lv (r.toList ++ rest) h2
                | none => none) else none
              | none => (match am_sq T m i lv with
                | some x => if 8 ≤ f ∧ 400 ≤ w ∧ am_ct st ≤ 8 then ih f w m (pc + 7) lv (.int x :: st) h else none
                | none => none))))))
    | _, _ => none) n
theorem am_go_succ (T : am_T) (ro : List am_E) (n f w m pc : Nat) (lv : List (Nat × Value)) (st : List Value) (h : List am_E) : am_go T ro (n + 1) f w m pc lv st h = 
    match am_in T m pc, am_mt T m with
    | some (i, _), some M => (match am_rt M.2.2.2.1 i st with
      | some r => some (r, h)
      | none => (match am_pu M.2.2.1 i pc lv st with
        | some (pc2, lv2, st2) => am_go T ro n f w m pc2 lv2 st2 h
        | none => (match am_hp T ro m i st h with
          | some (st2, h2) => am_go T ro n f w m (pc + am_ln i) lv st2 h2
          | none => (match am_nv T ro f w m i st h with
            | some (st2, h2) => am_go T ro n f w m (pc + 3) lv st2 h2
            | none => (match am_ca T ro m i st h with
              | some (k, M2, as, rest) => if 1 ≤ f ∧ 19 + M2.2.2.1 ≤ w ∧ am_ct as ≤ M2.2.2.1 then (match am_go T ro n (f - 1) (w - (19 + M2.2.2.1)) k 0 (lv_args 0 as) [] h with
                | some (r, h2) => am_go T ro n f w m (pc + 3) lv (r.toList ++ rest) h2
                | none => none) else none
              | none => (match am_sq T m i lv with
                | some x => if 8 ≤ f ∧ 400 ≤ w ∧ am_ct st ≤ 8 then am_go T ro n f w m (pc + 7) lv (.int x :: st) h else none
                | none => none))))))
    | _, _ => none := rfl
theorem am_hp_grow {T : am_T} {ro : List am_E} {m : Nat} {i : Instr} {st st2 : List Value} {h h2 : List am_E} (hh : am_hp T ro m i st h = some (st2, h2)) : am_grow h h2 := by
  unfold am_hp at hh
  split at hh
  · unfold am_gf at hh
    repeat' split at hh
    all_goals first | (cases hh; exact am_grow_rf _) | cases hh
  · unfold am_pf at hh
    split at hh
    · split at hh
      · split at hh
        · rename_i hdy
          split at hh
          · cases hh
            exact am_grow_up hdy (by simp [am_sz])
          · cases hh
        · cases hh
      · cases hh
    · cases hh
  · unfold am_ial at hh
    repeat' split at hh
    all_goals first | (cases hh; exact am_grow_rf _) | cases hh
  · unfold am_lal at hh
    repeat' split at hh
    all_goals first | (cases hh; exact am_grow_rf _) | cases hh
  · unfold am_bal at hh
    repeat' split at hh
    all_goals first | (cases hh; exact am_grow_rf _) | cases hh
  · unfold am_aal at hh
    repeat' split at hh
    all_goals first | (cases hh; exact am_grow_rf _) | cases hh
  · unfold am_ias at hh
    split at hh
    · split at hh
      · rename_i hdy
        split at hh
        · cases hh
          exact am_grow_up hdy rfl
        · cases hh
      · cases hh
    · cases hh
  · unfold am_las at hh
    split at hh
    · split at hh
      · rename_i hdy
        split at hh
        · cases hh
          exact am_grow_up hdy rfl
        · cases hh
      · cases hh
    · cases hh
  · unfold am_bas at hh
    split at hh
    · split at hh
      · rename_i hdy
        split at hh
        · split at hh
          · cases hh
            exact am_grow_up hdy rfl
          · split at hh
            · cases hh
              exact am_grow_up hdy rfl
            · cases hh
        · cases hh
      · cases hh
    · cases hh
  · unfold am_aas at hh
    split at hh
    · split at hh
      · rename_i hdy
        split at hh
        · split at hh
          · cases hh
            exact am_grow_up hdy rfl
          · cases hh
        · cases hh
      · cases hh
    · split at hh
      · rename_i hdy hdv
        split at hh
        · split at hh
          · cases hh
            exact am_grow_up hdy rfl
          · cases hh
        · cases hh
      · cases hh
    · cases hh
  · unfold am_aln at hh
    repeat' split at hh
    all_goals first | (cases hh; exact am_grow_rf _) | cases hh
  · unfold am_new at hh
    repeat' split at hh
    all_goals first | (cases hh; exact am_grow_push _ _) | cases hh
  · unfold am_na at hh
    repeat' split at hh
    all_goals first | (cases hh; exact am_grow_push _ _) | cases hh
  · unfold am_nq at hh
    repeat' split at hh
    all_goals first | (cases hh; exact am_grow_push _ _) | cases hh
  · unfold am_ldc at hh
    repeat' split at hh
    all_goals first | (cases hh; exact am_grow_rf _) | cases hh
  · unfold am_ldw at hh
    repeat' split at hh
    all_goals first | (cases hh; exact am_grow_rf _) | cases hh
  · unfold am_ldc at hh
    repeat' split at hh
    all_goals first | (cases hh; exact am_grow_rf _) | cases hh
  · unfold am_gs at hh
    repeat' split at hh
    all_goals first | (cases hh; exact am_grow_rf _) | cases hh
  · cases hh
theorem am_nv_grow {T : am_T} {ro : List am_E} {f w m : Nat} {i : Instr} {st st2 : List Value} {h h2 : List am_E} (hh : am_nv T ro f w m i st h = some (st2, h2)) : am_grow h h2 := by
  unfold am_nv at hh
  split at hh
  · repeat' split at hh
    all_goals first | (cases hh; exact am_grow_rf _) | cases hh
  · split at hh
    · split at hh
      · rename_i hd0 hd1
        split at hh
        · cases hh
          exact am_grow_up hd1 rfl
        · cases hh
      · cases hh
    · cases hh
  · cases hh
theorem am_go_grow (T : am_T) (ro : List am_E) (n : Nat) : ∀ (f w m pc : Nat) (lv : List (Nat × Value)) (st : List Value) (h : List am_E) (r : Option Value) (h2 : List am_E), am_go T ro n f w m pc lv st h = some (r, h2) → am_grow h h2 := by
  induction n with
  | zero => intro f w m pc lv st h r h2 hh; cases hh
  | succ n ih =>
    intro f w m pc lv st h r h2 hh
    rw [am_go_succ] at hh
    split at hh
    · split at hh
      · cases hh; exact am_grow_rf _
      · split at hh
        · exact ih _ _ _ _ _ _ _ _ _ hh
        · split at hh
          · rename_i h1
            exact am_grow_tr (am_hp_grow h1) (ih _ _ _ _ _ _ _ _ _ hh)
          · split at hh
            · rename_i h1
              exact am_grow_tr (am_nv_grow h1) (ih _ _ _ _ _ _ _ _ _ hh)
            · split at hh
              · split at hh
                · split at hh
                  · rename_i h1
                    exact am_grow_tr (ih _ _ _ _ _ _ _ _ _ h1) (ih _ _ _ _ _ _ _ _ _ hh)
                  · cases hh
                · cases hh
              · split at hh
                · split at hh
                  · exact ih _ _ _ _ _ _ _ _ _ hh
                  · cases hh
                · cases hh
    · cases hh
