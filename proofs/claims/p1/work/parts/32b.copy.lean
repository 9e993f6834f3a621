theorem am_nfw : nativeFrameWords "java/lang/System" "arraycopy" 5 ≤ 200 := by decide +kernel
theorem ek_cp {T : am_T} {ro : List am_E} {P : Option Value → List am_E → Prop} {f w m pc len idx : Nat} {lv : List (Nat × Value)} {r : List Value} {h : List am_E} {ks : List am_Fr} {M : am_M} {n dp sp : Int32} {a a0 n0 n1 : Nat} {f0 f1 : Nat → Int32} {k ci : Nat} (hi : am_in T m pc = some (.invokestatic idx, len)) (hM : am_mt T m = some M) (hk : am_ml T m idx = some (k, 5, ci)) (hd0 : am_dy ro h a0 = some (.inl (0, n0, .inl f0))) (hd1 : am_dy ro h a = some (.inl (0, n1, .inl f1))) (h1 : ¬ sp < 0) (h2 : ¬ dp < 0) (h3 : ¬ n < 0) (h4 : sp.toNatClampNeg + n.toNatClampNeg ≤ n0) (h5 : dp.toNatClampNeg + n.toNatClampNeg ≤ n1) (h6 : 1 ≤ f) (h7 : am_ct r + 211 ≤ w) (K : am_ek T ro P f w m (pc + 3) lv r (am_up ro h a (.inl (0, n1, .inl (va_cpy f0 f1 sp.toNatClampNeg dp.toNatClampNeg n.toNatClampNeg)))) ks) : am_ek T ro P f w m pc lv (.int n :: .int dp :: .ref a :: .int sp :: .ref a0 :: r) h ks := by
  refine ek_nv hi hM rfl rfl rfl ?_ K
  unfold am_nv
  simp only [hk, hd0, hd1]
  rw [if_pos]
  have := am_nfw
  exact ⟨trivial, trivial, h1, h2, h3, h4, h5, h6, by omega⟩
