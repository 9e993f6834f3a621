/-- a test is added to a row -/
def o_ts (R c a pl : Int) (H : e3_H) : e3_H := e3_up (e3_up (e3_up H (R + 2) c a) (R + 3) pl a) R 1 (c + 1)
theorem cO_addTest {Q : e3_H → e3_G → Prop} {H : e3_H} {G : e3_G} {R ru a c pl : Int} {cnt : Nat} (hO : O_ob R ru cnt H G) (hcn : cnt ≤ 100000) (ga : g_at G a (110, 10)) (hc : H R 1 = c) (hc2 : 0 ≤ c ∧ c < cnt) (hpl : H a 2 = pl) (hpl2 : 0 ≤ pl ∧ pl < cnt) (hQ : Q (o_ts R c a pl H) G) : wO_addTest Q R a H G := by
  obtain ⟨o1, o2, o3, _, ⟨o6, o7⟩, ⟨o8, o9⟩⟩ := hO
  have ob := ga_ob (c := 11) o2
  have obp := ga_ob (c := 10) ga
  have n1 : R ≠ a := ga_ne o2 ga (by decide)
  have n2 : R + 2 ≠ a := ga_ne o7 ga (by decide)
  have n3 : R + 3 ≠ a := ga_ne o9 ga (by decide)
  have a0 := ga.1
  unfold wO_addTest
  rw [o6, o8, hc, hpl, ga_ln o7, ga_ln o9]
  refine ⟨ob, ob, ⟨by omega, by omega, cnt, o7.2⟩, brT (by omega) ⟨obp, ob, ⟨by omega, by omega, cnt, o9.2⟩, brT (by omega) ⟨ob, ob, ga_oa o7 (by omega) (by omega), Or.inr obp, ?_⟩⟩⟩
  intro H7 e7
  have k1 : H7 R 3 = R + 3 := by rw [e7, e3_up_ne (fun z => by have := z.1; omega)]; exact o8
  have k2 : H7 a 2 = pl := by rw [e7, e3_up_ne (fun z => n2 z.1.symm)]; exact hpl
  rw [k1, k2]
  refine ⟨ob, obp, ga_oa o9 (by omega) (by omega), Or.inr obp, ?_⟩
  intro H12 e12
  have k3 : H12 R 1 = c := by rw [e12, e3_up_ne (fun z => by have := z.1; omega), e7, e3_up_ne (fun z => by have := z.1; omega)]; exact hc
  rw [k3, e3_w32_id (x := c + 1) (by omega) (by omega)]
  refine ⟨ob, ob, ?_⟩
  intro H17 e17
  unfold wO_addTest_54
  rw [e17, e12, e7]
  exact hQ
