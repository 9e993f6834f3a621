/-- callers that wait: frames, words, method, place, words of the frame, what lies below on the stack -/
abbrev am_Fr : Type := Nat × Nat × Nat × Nat × List (Nat × Value) × List Value
def am_kt (T : am_T) (ro : List am_E) (P : Option Value → List am_E → Prop) : List am_Fr → Option Value → List am_E → Prop
  | [], r, h => P r h
  | (f, w, m, pc, lv, rest) :: ks, r, h => ∃ (r2 : Option Value) (h2 : List am_E), am_ev T ro f w m pc lv (r.toList ++ rest) h r2 h2 ∧ am_kt T ro P ks r2 h2
def am_ek (T : am_T) (ro : List am_E) (P : Option Value → List am_E → Prop) (f w m pc : Nat) (lv : List (Nat × Value)) (st : List Value) (h : List am_E) (ks : List am_Fr) : Prop := ∃ (r2 : Option Value) (h2 : List am_E), am_ev T ro f w m pc lv st h r2 h2 ∧ am_kt T ro P ks r2 h2
section EK
variable {T : am_T} {ro : List am_E} {P : Option Value → List am_E → Prop} {f w m pc len : Nat} {lv : List (Nat × Value)} {st : List Value} {h h3 : List am_E} {ks : List am_Fr} {i : Instr} {M : am_M}
theorem ek_k {pc2 : Nat} {lv2 : List (Nat × Value)} {st2 : List Value} (k : Nat) (hM : am_mt T m = some M) (hn : am_nxs T ro m M k (pc, lv, st, h) = some (pc2, lv2, st2, h3)) (K : am_ek T ro P f w m pc2 lv2 st2 h3 ks) : am_ek T ro P f w m pc lv st h ks := by
  obtain ⟨r2, h2, a, b⟩ := K
  exact ⟨r2, h2, am_go_k k hM hn a, b⟩
theorem ek_pu {pc2 : Nat} {lv2 : List (Nat × Value)} {st2 : List Value} (hi : am_in T m pc = some (i, len)) (hM : am_mt T m = some M) (hr : am_rt M.2.2.2.1 i st = none) (hp : am_pu M.2.2.1 i pc lv st = some (pc2, lv2, st2)) (K : am_ek T ro P f w m pc2 lv2 st2 h ks) : am_ek T ro P f w m pc lv st h ks := by
  obtain ⟨r2, h2, a, b⟩ := K
  exact ⟨r2, h2, am_ev_pu hi hM hr hp a, b⟩
theorem ek_nv {st2 : List Value} (hi : am_in T m pc = some (i, len)) (hM : am_mt T m = some M) (hr : am_rt M.2.2.2.1 i st = none) (hp : am_pu M.2.2.1 i pc lv st = none) (hh : am_hp T ro m i st h = none) (hv : am_nv T ro f w m i st h = some (st2, h3)) (K : am_ek T ro P f w m (pc + 3) lv st2 h3 ks) : am_ek T ro P f w m pc lv st h ks := by
  obtain ⟨r2, h2, a, b⟩ := K
  exact ⟨r2, h2, am_ev_nv hi hM hr hp hh hv a, b⟩
theorem ek_call {k f1 w1 : Nat} {M2 : am_M} {as rest : List Value} (hi : am_in T m pc = some (i, len)) (hM : am_mt T m = some M) (hr : am_rt M.2.2.2.1 i st = none) (hp : am_pu M.2.2.1 i pc lv st = none) (hh : am_hp T ro m i st h = none) (hc : am_ca T ro m i st h = some (k, M2, as, rest)) (hf : f1 + 1 ≤ f) (hw : w1 + (19 + M2.2.2.1) ≤ w) (hct : am_ct as ≤ M2.2.2.1) (K : am_ek T ro P f1 w1 k 0 (lv_args 0 as) [] h ((f, w, m, pc + 3, lv, rest) :: ks)) : am_ek T ro P f w m pc lv st h ks := by
  obtain ⟨r1, h1, a, r2, h2, b, c⟩ := K
  exact ⟨r2, h2, am_ev_call hi hM hr hp hh hc hf hw hct a b, c⟩
theorem ek_ret {r : Option Value} {f1 w1 m1 pc1 : Nat} {lv1 : List (Nat × Value)} {rest : List Value} (hi : am_in T m pc = some (i, len)) (hM : am_mt T m = some M) (hr : am_rt M.2.2.2.1 i st = some r) (K : am_ek T ro P f1 w1 m1 pc1 lv1 (r.toList ++ rest) h ks) : am_ek T ro P f w m pc lv st h ((f1, w1, m1, pc1, lv1, rest) :: ks) := ⟨r, h, am_ev_ret hi hM hr, K⟩
theorem ek_end {r : Option Value} (hi : am_in T m pc = some (i, len)) (hM : am_mt T m = some M) (hr : am_rt M.2.2.2.1 i st = some r) (K : P r h) : am_ek T ro P f w m pc lv st h [] := ⟨r, h, am_ev_ret hi hM hr, K⟩
end EK
