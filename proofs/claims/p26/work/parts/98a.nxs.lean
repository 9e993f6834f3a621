abbrev am_Cf : Type := Nat × List (Nat × Value) × List Value × List am_E
def am_nx (T : am_T) (ro : List am_E) (m : Nat) (M : am_M) (q : am_Cf) : Option am_Cf := match am_in T m q.1 with
  | some (i, _) => (match am_rt M.2.2.2.1 i q.2.2.1 with
    | some _ => none
    | none => (match am_pu M.2.2.1 i q.1 q.2.1 q.2.2.1 with
      | some (pc2, lv2, st2) => some (pc2, lv2, st2, q.2.2.2)
      | none => (match am_hp T ro m i q.2.2.1 q.2.2.2 with
        | some (st2, h2) => some (q.1 + am_ln i, q.2.1, st2, h2)
        | none => none)))
  | none => none
def am_nxs (T : am_T) (ro : List am_E) (m : Nat) (M : am_M) : Nat → am_Cf → Option am_Cf
  | 0, q => some q
  | k + 1, q => match am_nx T ro m M q with
    | some q2 => am_nxs T ro m M k q2
    | none => none
theorem am_ev_nx {T : am_T} {ro : List am_E} {f w m : Nat} {M : am_M} {q q2 : am_Cf} {r : Option Value} {h2 : List am_E} (hM : am_mt T m = some M) (hn : am_nx T ro m M q = some q2) (K : am_ev T ro f w m q2.1 q2.2.1 q2.2.2.1 q2.2.2.2 r h2) : am_ev T ro f w m q.1 q.2.1 q.2.2.1 q.2.2.2 r h2 := by
  unfold am_nx at hn
  split at hn
  · rename_i i len hi
    split at hn
    · cases hn
    · rename_i hr
      split at hn
      · rename_i pc2 lv2 st2 hp
        cases hn
        exact am_ev_pu hi hM hr hp K
      · rename_i hp
        split at hn
        · rename_i st2 h3 hh
          cases hn
          exact am_ev_hp hi hM hr hp hh K
        · cases hn
  · cases hn
theorem am_ev_nxs {T : am_T} {ro : List am_E} {f w m : Nat} {M : am_M} {r : Option Value} {h2 : List am_E} (hM : am_mt T m = some M) : ∀ (k : Nat) {q q2 : am_Cf}, am_nxs T ro m M k q = some q2 → am_ev T ro f w m q2.1 q2.2.1 q2.2.2.1 q2.2.2.2 r h2 → am_ev T ro f w m q.1 q.2.1 q.2.2.1 q.2.2.2 r h2
  | 0, q, q2, hn, K => by cases hn; exact K
  | k + 1, q, q2, hn, K => by
    unfold am_nxs at hn
    split at hn
    · rename_i q3 h3
      exact am_ev_nx hM h3 (am_ev_nxs hM k hn K)
    · cases hn
/-- k steps of one's own at once -/
theorem am_go_k {T : am_T} {ro : List am_E} {f w m pc pc2 : Nat} {lv lv2 : List (Nat × Value)} {st st2 : List Value} {h h3 : List am_E} {M : am_M} {r : Option Value} {h2 : List am_E} (k : Nat) (hM : am_mt T m = some M) (hn : am_nxs T ro m M k (pc, lv, st, h) = some (pc2, lv2, st2, h3)) (K : am_ev T ro f w m pc2 lv2 st2 h3 r h2) : am_ev T ro f w m pc lv st h r h2 := am_ev_nxs hM k hn K
