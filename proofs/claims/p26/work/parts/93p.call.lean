/-- the mask of all rows -/
theorem MK_all {σ : e3_H} {R : a_RW} (h : R.length ≤ 40) : MK R (fun w => lv σ w []) (2 ^ R.length - 1) := by
  have h0 : 2 ^ R.length ≤ 2 ^ 40 := Nat.pow_le_pow_right (by omega) h
  have h1 : 1 ≤ 2 ^ R.length := Nat.one_le_two_pow
  refine ⟨by omega, fun i => ?_⟩
  rw [Nat.testBit_two_pow_sub_one]
  cases hz : R[i]? with
  | none =>
    have := List.getElem?_eq_none_iff.mp hz
    exact decide_eq_false (by omega)
  | some w =>
    have := (List.getElem?_eq_some_iff.mp hz).1
    exact decide_eq_true this
theorem cF_allRows {Q : Int → e3_H → e3_G → Prop} {σ g H : e3_H} {G : e3_G} {m : Nat} {pn cx : Int → Int} {cnt : Nat} {R : a_RW} {fu : Int} (hD : DX σ g m pn cx cnt R fu H G) (hQ : ∀ M : Nat, MK R (fun w => lv σ w []) M → Q (M : Int) H G) : wF_allRows Q fu H G := by
  obtain ⟨_, ⟨f1, f2⟩, ⟨f3, f4⟩, _⟩ := hD
  have h0 : 2 ^ R.length ≤ 2 ^ 40 := Nat.pow_le_pow_right (by omega) f4
  have h1 : 1 ≤ 2 ^ R.length := Nat.one_le_two_pow
  refine ⟨ga_ob (c := 8) f2, ?_⟩
  rw [f3, m_shl (by omega), e3_w64_id (by omega) (by omega)]
  rw [show ((2 ^ R.length : Nat) : Int) - 1 = ((2 ^ R.length - 1 : Nat) : Int) by omega]
  exact hQ _ (MK_all f4)
/-- the trees of a class: the maker's, and one of each FUNCTION -/
def TS (nf : Nat) (K : e3_H) (G : e3_G) : Prop := TRE (K 16 1) K G ∧ (∀ f : Nat, f < nf → TRE (K (K 15 f) 10) K G ∧ K (K 15 f) 10 ≠ K 16 1) ∧ (∀ f f' : Nat, f < nf → f' < nf → f ≠ f' → K (K 15 f) 10 ≠ K (K 15 f') 10 ∧ K 15 f ≠ K 15 f') ∧ (∃ kl, DA (K 16 4) (K 16 1) G kl) ∧ ∀ f : Nat, f < nf → K 16 4 ≠ K (K 15 f) 10 + 6
section TSS
variable {nf : Nat} {H K : e3_H} {G G2 : e3_G} {cnt : Nat}
/-- trees, behind the drawing of one -/
theorem TS_DR (h139 : 139 ≤ (G.length : Int)) (hG : GB G) (hfu : ∀ f : Nat, f < nf → g_at G (H 15 f) (108, 11)) (h : TS nf H G) (hc : 16 ≤ cnt ∨ (cnt : Int) ≤ e3_ln G (H 16 4)) (hcn : cnt ≤ 100000) (hD : DR (H 16 1) H G K G2 cnt) : TS nf K G2 ∧ K 16 1 = H 16 1 ∧ (∀ f : Nat, K 15 f = H 15 f) ∧ ∀ f : Nat, f < nf → K (K 15 f) 10 = H (H 15 f) 10 ∧ ∀ a x : Int, H (H 15 f) 10 ≤ a → a ≤ H (H 15 f) 10 + 6 → K a x = H a x := by
  obtain ⟨t1, t2, t3, ⟨kl, t4⟩, t5⟩ := h
  have d2 := DR_D2 h139 hG t1 t4 hD
  have e1 : K 16 1 = H 16 1 := hD.2.1 1 (by decide) (by decide) (by decide) (by decide) (by decide)
  have e15 : ∀ f : Nat, K 15 f = H 15 f := fun f => d2.2.2 15 f (by decide)
  have self := DR_self t1 hD
  obtain ⟨⟨k1, k2⟩, k3, k4, k5⟩ := id t4
  have e10 : ∀ f : Nat, f < nf → K (K 15 f) 10 = H (H 15 f) 10 := fun f hf => by
    rw [e15]
    have hb := hfu f hf
    refine hD.1 _ 10 (ga_lt hb) (fun z => ?_) (fun z => ?_) (fun z => ?_) (fun z => ?_) (fun z => ?_)
    · rw [z] at hb; exact absurd (Prod.mk.inj (ga_eq hb hG.1)).1 (by decide)
    · rw [z] at hb; exact absurd (Prod.mk.inj (ga_eq hb hG.2)).1 (by decide)
    · rw [z] at hb; exact absurd (Prod.mk.inj (ga_eq hb k2)).1 (by decide)
    · rw [z] at hb; exact absurd (Prod.mk.inj (ga_eq hb t1.2.1)).1 (by decide)
    · rcases TRE_tag t1 z with y | y
      · exact absurd (Prod.mk.inj (ga_eq hb y)).1 (by decide)
      · exact absurd (Prod.mk.inj (ga_eq hb y)).1 (by decide)
  have tr : ∀ f : Nat, f < nf → TRE (H (H 15 f) 10) K G2 ∧ ∀ a x : Int, H (H 15 f) 10 ≤ a → a ≤ H (H 15 f) 10 + 6 → K a x = H a x := fun f hf => DR_tree hG t1 t4 hD (t2 f hf).1 (t2 f hf).2 (t5 f hf)
  refine ⟨⟨by rw [e1]; exact self, fun f hf => ?_, fun f f' hf hf' hne => ?_, ?_, fun f hf => ?_⟩, e1, e15, fun f hf => ⟨e10 f hf, (tr f hf).2⟩⟩
  · rw [e10 f hf, e1]; exact ⟨(tr f hf).1, (t2 f hf).2⟩
  · rw [e10 f hf, e10 f' hf', e15, e15]; exact t3 f f' hf hf' hne
  · rw [e1]
    rcases hD.2.2.1 with ⟨z1, z2, z3⟩ | ⟨z1, z2, z3⟩
    · exact ⟨kl, by rw [z1, z2]; exact t4⟩
    · refine ⟨cnt, ?_⟩
      rw [z1, z2]
      have l6 := ga_lt t1.2.2.2.2.2.2.2.2
      exact ⟨⟨by omega, ga_new⟩, ⟨by omega, by omega⟩, Or.inr h139, by omega⟩
  · rw [e10 f hf]
    rcases hD.2.2.1 with ⟨z1, z2, z3⟩ | ⟨z1, z2, z3⟩
    · rw [z2]; exact t5 f hf
    · rw [z2]
      have l6 := ga_lt (t2 f hf).1.2.2.2.2.2.2.2.2
      omega
end TSS
