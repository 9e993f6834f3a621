section E3W
variable {B : e3_B} {f w m pc : Nat} {lv st : List e3_V} {H : e3_H} {G : e3_G} {Q : Option e3_V → e3_H → e3_G → Prop} {M : am_M}
theorem e3_K (os : List Nat) (pc2 : Nat) (lv2 st2 : List e3_V) (H2 : e3_H) (G2 : e3_G) {P : Prop} (hZ : e3_Z B) (hM : am_mt B.1 m = some M) (hr : e3_run B m M.2.2.1 os pc lv st H G = some ((pc2, lv2, st2, H2, G2), P)) (hP : P) (K : e3_Ev B f w m pc2 lv2 st2 H2 G2 Q) : e3_Ev B f w m pc lv st H G Q := e3_k hZ hM hr hP K
def e3_co (G : e3_G) (a0 sp a dp n : Int) : Prop := 2 ≤ a ∧ 2 ≤ a0 ∧ 0 ≤ sp ∧ 0 ≤ dp ∧ 0 ≤ n ∧ ∃ n1 n0 : Nat, G[a.toNat]? = some (0, n1) ∧ G[a0.toNat]? = some (0, n0) ∧ sp + n ≤ n0 ∧ dp + n ≤ n1
theorem e3_cp2 {idx len x y : Nat} {n dp a sp a0 : Int} {r : List e3_V} (hi : am_in B.1 m pc = some (.invokestatic idx, len)) (hM : am_mt B.1 m = some M) (hml : am_ml B.1 m idx = some (x, 5, y)) (ho : e3_co G a0 sp a dp n) (hf : 1 ≤ f) (hw : e3_ct r + (nativeFrameWords "java/lang/System" "arraycopy" 5 + 11) ≤ w) (K : e3_Ev B f w m (pc + 3) lv r (e3_cpy H a0 sp a dp n) G Q) : e3_Ev B f w m pc lv ((0, n) :: (0, dp) :: (2, a) :: (0, sp) :: (2, a0) :: r) H G Q := by
  obtain ⟨h1, h2, h3, h4, h5, n1, n0, h6, h7, h8, h9⟩ := ho
  exact e3_cp hi hM hml h1 h2 h6 h7 h3 h4 h5 h8 h9 hf hw K
def e3_q0 (Q : Int → e3_H → e3_G → Prop) : Option e3_V → e3_H → e3_G → Prop := fun r H G => ∃ x, r = some (0, x) ∧ Q x H G
def e3_q1 (Q : Int → e3_H → e3_G → Prop) : Option e3_V → e3_H → e3_G → Prop := fun r H G => ∃ x, r = some (1, x) ∧ Q x H G
def e3_q2 (Q : Int → e3_H → e3_G → Prop) : Option e3_V → e3_H → e3_G → Prop := fun r H G => ∃ x, r = some (2, x) ∧ Q x H G
def e3_qv (Q : e3_H → e3_G → Prop) : Option e3_V → e3_H → e3_G → Prop := fun r H G => r = none ∧ Q H G
end E3W
