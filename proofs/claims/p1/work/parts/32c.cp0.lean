theorem ek_cp0 {T : am_T} {ro : List am_E} {P : Option Value → List am_E → Prop} {f w m pc len idx : Nat} {lv : List (Nat × Value)} {r : List Value} {h : List am_E} {ks : List am_Fr} {M : am_M} {dp sp : Int32} {a a0 n0 n1 : Nat} {f0 f1 : Nat → Int32} {k ci : Nat} (hi : am_in T m pc = some (.invokestatic idx, len)) (hM : am_mt T m = some M) (hk : am_ml T m idx = some (k, 5, ci)) (hd0 : am_dy ro h a0 = some (.inl (0, n0, .inl f0))) (hd1 : am_dy ro h a = some (.inl (0, n1, .inl f1))) (h1 : ¬ sp < 0) (h2 : ¬ dp < 0) (h4 : sp.toNatClampNeg ≤ n0) (h5 : dp.toNatClampNeg ≤ n1) (h6 : 1 ≤ f) (h7 : am_ct r + 211 ≤ w) (K : am_ek T ro P f w m (pc + 3) lv r h ks) : am_ek T ro P f w m pc lv (.int 0 :: .int dp :: .ref a :: .int sp :: .ref a0 :: r) h ks := by
  have z : (0 : Int32).toNatClampNeg = 0 := by decide
  refine ek_cp hi hM hk hd0 hd1 h1 h2 (by decide) (by rw [z]; exact h4) (by rw [z]; exact h5) h6 h7 ?_
  have e : am_up ro h a (.inl (0, n1, .inl (va_cpy f0 f1 sp.toNatClampNeg dp.toNatClampNeg (0 : Int32).toNatClampNeg))) = h := by
    have e1 : va_cpy f0 f1 sp.toNatClampNeg dp.toNatClampNeg (0 : Int32).toNatClampNeg = f1 := by
      funext j
      unfold va_cpy
      rw [z, if_neg (by omega)]
    rw [e1]
    obtain ⟨q, rfl, hq⟩ := am_dy_ok hd1
    rw [am_up_at]
    apply List.ext_getElem?
    intro j
    rw [List.getElem?_set]
    split
    · rename_i hj
      subst hj
      split
      · exact hq.symm
      · rename_i hl
        exact absurd (List.getElem?_eq_some_iff.mp hq).1 hl
    · rfl
  rw [e]
  exact K
