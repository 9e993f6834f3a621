theorem am_nv_mono {T : am_T} {ro : List am_E} {f w f2 w2 m : Nat} {i : Instr} {st : List Value} {h : List am_E} {x : am_Y} (hf : f ≤ f2) (hw : w ≤ w2) (hh : am_nv T ro f w m i st h = some x) : am_nv T ro f2 w2 m i st h = some x := by
  unfold am_nv at hh ⊢
  split at hh
  · split at hh
    · rename_i k ci a r hkl
      split at hh
      · rename_i hc
        try simp only [hkl]
        rw [if_pos ⟨by omega, by omega⟩]
        exact hh
      · cases hh
    · cases hh
  · split at hh
    · rename_i k ci n dp a sp a0 r hkl
      split at hh
      · rename_i t0 n0 f0 t1 n1 f1 hd0 hd1
        split at hh
        · rename_i hc
          obtain ⟨h1, h2, h3, h4, h5, h6, h7, h8, h9⟩ := hc
          try simp only [hkl, hd0, hd1]
          rw [if_pos ⟨h1, h2, h3, h4, h5, h6, h7, by omega, by omega⟩]
          exact hh
        · cases hh
      · cases hh
    · cases hh
  · cases hh
theorem am_ca_nv {T : am_T} {ro : List am_E} {f w m : Nat} {i : Instr} {st : List Value} {h : List am_E} {x : Nat × am_M × List Value × List Value} (hh : am_ca T ro m i st h = some x) : am_nv T ro f w m i st h = none := by
  unfold am_ca at hh
  unfold am_nv
  split at hh
  · rename_i idx
    split at hh
    · rename_i k ci hk
      simp only [hk]
    · cases hh
  · rename_i idx
    rfl
  · rename_i idx
    split at hh
    · rename_i k kd ci hk
      split at hh
      · rename_i hkd
        simp only [hk]
        rcases hkd with rfl | rfl
        · rfl
        · rfl
      · cases hh
    · cases hh
  · cases hh
theorem am_sq_nv {T : am_T} {ro : List am_E} {f w m : Nat} {i : Instr} {lv : List (Nat × Value)} {st : List Value} {h : List am_E} {x : Int32} (hs : am_sq T m i lv = some x) : am_nv T ro f w m i st h = none := by
  unfold am_sq at hs
  split at hs
  · rfl
  · cases hs
theorem am_go_mono (T : am_T) (ro : List am_E) : ∀ (n f w m pc : Nat) (lv : List (Nat × Value)) (st : List Value) (h : List am_E) (x : Option Value × List am_E), am_go T ro n f w m pc lv st h = some x → ∀ (n2 f2 w2 : Nat), n ≤ n2 → f ≤ f2 → w ≤ w2 → am_go T ro n2 f2 w2 m pc lv st h = some x := by
  intro n
  induction n with
  | zero => intro f w m pc lv st h x hh; cases hh
  | succ n ih =>
    intro f w m pc lv st h x hh n2 f2 w2 hn hf hw
    obtain ⟨k, rfl⟩ : ∃ k, n2 = k + 1 := ⟨n2 - 1, by omega⟩
    rw [am_go_succ] at hh ⊢
    split at hh
    · rename_i i len M hin hM
      try simp only [hin, hM]
      split at hh
      · rename_i r hrt
        try simp only [hrt]
        exact hh
      · rename_i hrt
        try simp only [hrt]
        split at hh
        · rename_i pc2 lv2 st2 hpu
          try simp only [hpu]
          exact ih _ _ _ _ _ _ _ _ hh _ _ _ (by omega) hf hw
        · rename_i hpu
          try simp only [hpu]
          split at hh
          · rename_i st2 h2 hhp
            try simp only [hhp]
            exact ih _ _ _ _ _ _ _ _ hh _ _ _ (by omega) hf hw
          · rename_i hhp
            try simp only [hhp]
            split at hh
            · rename_i st2 h2 hnv
              simp only [am_nv_mono hf hw hnv]
              exact ih _ _ _ _ _ _ _ _ hh _ _ _ (by omega) hf hw
            · split at hh
              · rename_i kk M2 as rest hca
                simp only [am_ca_nv hca, hca]
                split at hh
                · rename_i hc
                  rw [if_pos ⟨by omega, by omega, hc.2.2⟩]
                  split at hh
                  · rename_i r1 h1 hgo
                    simp only [ih _ _ _ _ _ _ _ _ hgo k (f2 - 1) (w2 - (19 + M2.2.2.1)) (by omega) (by omega) (by omega)]
                    exact ih _ _ _ _ _ _ _ _ hh _ _ _ (by omega) hf hw
                  · cases hh
                · cases hh
              · rename_i hca
                split at hh
                · rename_i y hsq
                  split at hh
                  · rename_i hc
                    simp only [am_sq_nv hsq, hca, hsq]
                    rw [if_pos ⟨by omega, by omega, hc.2.2⟩]
                    exact ih _ _ _ _ _ _ _ _ hh _ _ _ (by omega) hf hw
                  · cases hh
                · cases hh
    · cases hh
/-- the own machine comes to an end: f frames and w words are enough -/
def am_ev (T : am_T) (ro : List am_E) (f w m pc : Nat) (lv : List (Nat × Value)) (st : List Value) (h : List am_E) (r : Option Value) (h2 : List am_E) : Prop := ∃ n, am_go T ro n f w m pc lv st h = some (r, h2)
section EV
variable {T : am_T} {ro : List am_E} {f w m pc len : Nat} {lv : List (Nat × Value)} {st : List Value} {h h2 h3 : List am_E} {r : Option Value} {i : Instr} {M : am_M}
theorem am_ev_mono (hh : am_ev T ro f w m pc lv st h r h2) {f2 w2 : Nat} (hf : f ≤ f2) (hw : w ≤ w2) : am_ev T ro f2 w2 m pc lv st h r h2 := by
  obtain ⟨n, hn⟩ := hh
  exact ⟨n, am_go_mono T ro n f w m pc lv st h _ hn n f2 w2 (Nat.le_refl _) hf hw⟩
theorem am_ev_ret (hi : am_in T m pc = some (i, len)) (hM : am_mt T m = some M) (hr : am_rt M.2.2.2.1 i st = some r) : am_ev T ro f w m pc lv st h r h := ⟨1, by rw [am_go_succ, hi, hM]; simp only [hr]⟩
theorem am_ev_pu {pc2 : Nat} {lv2 : List (Nat × Value)} {st2 : List Value} (hi : am_in T m pc = some (i, len)) (hM : am_mt T m = some M) (hr : am_rt M.2.2.2.1 i st = none) (hp : am_pu M.2.2.1 i pc lv st = some (pc2, lv2, st2)) (K : am_ev T ro f w m pc2 lv2 st2 h r h2) : am_ev T ro f w m pc lv st h r h2 := by
  obtain ⟨n, hn⟩ := K
  exact ⟨n + 1, by rw [am_go_succ, hi, hM]; simp only [hr, hp]; exact hn⟩
theorem am_ev_hp {st2 : List Value} (hi : am_in T m pc = some (i, len)) (hM : am_mt T m = some M) (hr : am_rt M.2.2.2.1 i st = none) (hp : am_pu M.2.2.1 i pc lv st = none) (hh : am_hp T ro m i st h = some (st2, h3)) (K : am_ev T ro f w m (pc + am_ln i) lv st2 h3 r h2) : am_ev T ro f w m pc lv st h r h2 := by
  obtain ⟨n, hn⟩ := K
  exact ⟨n + 1, by rw [am_go_succ, hi, hM]; simp only [hr, hp, hh]; exact hn⟩
theorem am_ev_nv {st2 : List Value} (hi : am_in T m pc = some (i, len)) (hM : am_mt T m = some M) (hr : am_rt M.2.2.2.1 i st = none) (hp : am_pu M.2.2.1 i pc lv st = none) (hh : am_hp T ro m i st h = none) (hv : am_nv T ro f w m i st h = some (st2, h3)) (K : am_ev T ro f w m (pc + 3) lv st2 h3 r h2) : am_ev T ro f w m pc lv st h r h2 := by
  obtain ⟨n, hn⟩ := K
  exact ⟨n + 1, by rw [am_go_succ, hi, hM]; simp only [hr, hp, hh, hv]; exact hn⟩
theorem am_ev_call {k : Nat} {M2 : am_M} {as rest : List Value} {r1 : Option Value} {f1 w1 : Nat} (hi : am_in T m pc = some (i, len)) (hM : am_mt T m = some M) (hr : am_rt M.2.2.2.1 i st = none) (hp : am_pu M.2.2.1 i pc lv st = none) (hh : am_hp T ro m i st h = none) (hc : am_ca T ro m i st h = some (k, M2, as, rest)) (hf : f1 + 1 ≤ f) (hw : w1 + (19 + M2.2.2.1) ≤ w) (hct : am_ct as ≤ M2.2.2.1) (hcall : am_ev T ro f1 w1 k 0 (lv_args 0 as) [] h r1 h3) (K : am_ev T ro f w m (pc + 3) lv (r1.toList ++ rest) h3 r h2) : am_ev T ro f w m pc lv st h r h2 := by
  obtain ⟨n1, hn1⟩ := hcall
  obtain ⟨n2, hn2⟩ := K
  refine ⟨(n1 + n2) + 1, ?_⟩
  rw [am_go_succ, hi, hM]
  simp only [hr, hp, hh, am_ca_nv hc, hc]
  rw [if_pos ⟨by omega, by omega, hct⟩, am_go_mono T ro n1 f1 w1 k 0 _ _ _ _ hn1 (n1 + n2) (f - 1) (w - (19 + M2.2.2.1)) (by omega) (by omega) (by omega)]
  exact am_go_mono T ro n2 f w m (pc + 3) lv _ _ _ hn2 (n1 + n2) f w (by omega) (Nat.le_refl _) (Nat.le_refl _)
theorem am_ev_sq {x : Int32} (hi : am_in T m pc = some (i, len)) (hM : am_mt T m = some M) (hr : am_rt M.2.2.2.1 i st = none) (hp : am_pu M.2.2.1 i pc lv st = none) (hh : am_hp T ro m i st h = none) (hc : am_ca T ro m i st h = none) (hs : am_sq T m i lv = some x) (hf : 8 ≤ f) (hw : 400 ≤ w) (hct : am_ct st ≤ 8) (K : am_ev T ro f w m (pc + 7) lv (.int x :: st) h r h2) : am_ev T ro f w m pc lv st h r h2 := by
  obtain ⟨n, hn⟩ := K
  refine ⟨n + 1, ?_⟩
  rw [am_go_succ, hi, hM]
  simp only [hr, hp, hh, am_sq_nv hs, hc, hs]
  rw [if_pos ⟨hf, hw, hct⟩]
  exact hn
end EV
