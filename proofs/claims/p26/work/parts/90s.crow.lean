/-- a Row of the class -/
def O_ob (R ru : Int) (cnt : Nat) (H : e3_H) (G : e3_G) : Prop := 139 ≤ R ∧ g_at G R (111, 5) ∧ H R 0 = ru ∧ (H R 4 = R + 1 ∧ g_at G (R + 1) (0, 8)) ∧ (H R 2 = R + 2 ∧ g_at G (R + 2) (7, cnt)) ∧ (H R 3 = R + 3 ∧ g_at G (R + 3) (7, cnt))
/-- what a rule must be, to be asked for its NAMES -/
def U_ok (σ : e3_H) (r a : Int) (H : e3_H) (G : e3_G) : Prop := g_at G a (109, 19) ∧ H a 5 = a + 1 ∧ 139 ≤ a ∧ g_at G (a + 1) (1, 8) ∧ H a 4 = σ 56 r ∧ (0 ≤ σ 56 r ∧ σ 56 r ≤ 8) ∧ (∀ k : Nat, (k : Int) < σ 56 r → H (a + 1) k = σ 57 (8 * r + k)) ∧ a_ds (fun k => σ 57 (8 * r + k)) (σ 56 r).toNat ∧ nz r σ
/-- a NAME's place is held -/
def o_nm (R k pl : Int) (H : e3_H) : e3_H := if k = -4 then H else e3_up H (R + 1) k pl
theorem cO_holdName {Q : e3_H → e3_G → Prop} {σ H : e3_H} {G : e3_G} {R r ru k pl : Int} {cnt : Nat} (hO : O_ob R ru cnt H G) (hU : U_ok σ r ru H G) (hk : k = -4 ∨ (0 ≤ k ∧ k < σ 56 r)) (hQ : Q (o_nm R k pl H) G) : wO_holdName Q R (c_nam σ r k) pl H G := by
  obtain ⟨o1, o2, o3, ⟨o4, o5⟩, _⟩ := hO
  obtain ⟨u1, u2, u3, u4, u5, u6, u7, u8, u9⟩ := hU
  have ob := ga_ob (c := 11) o2
  unfold wO_holdName
  rw [o3]
  refine ⟨ob, ga_ob (c := 9) u1, cU_nn u1 u2 u3 u4 u5 u6 u7 u8 u9 hk ?_⟩
  unfold o_nm at hQ
  rcases hk with hz | hz
  · rw [if_pos hz] at hQ ⊢
    exact brT (by decide) hQ
  · rw [if_neg (by omega)] at hQ ⊢
    rw [o4, ga_ln o5]
    refine brF (by omega) ⟨ob, ⟨by omega, by decide, 8, o5.2⟩, brT (by omega) ⟨ob, ga_oa o5 (by omega) (by omega), ?_⟩⟩
    intro H7 e7
    rw [e7]
    exact hQ
