section HND
variable {nf f : Nat} {K K4 : e3_H} {G : e3_G}
/-- trees, behind the handing over of one -/
theorem TS_hand (hG : GB G) (hfu : ∀ f : Nat, f < nf → g_at G (K 15 f) (108, 11)) (hf15 : 15 < 16) (h : TS nf K G) (hf : f < nf) (e4 : K4 = e3_up (e3_up K (K 15 f) 10 (K 16 1)) 16 1 (K (K 15 f) 10)) (h139 : ∀ f : Nat, f < nf → 139 ≤ K 15 f) : TS nf K4 G ∧ (K4 16 1 = K (K 15 f) 10 ∧ K4 (K4 15 f) 10 = K 16 1) ∧ (∀ f' : Nat, K4 15 f' = K 15 f') ∧ (∀ f' : Nat, f' < nf → f' ≠ f → K4 (K4 15 f') 10 = K (K 15 f') 10) ∧ (∀ a x : Int, (a ≠ 16 ∨ x ≠ 1) → (a ≠ K 15 f ∨ x ≠ 10) → K4 a x = K a x) ∧ D2 K G K4 G := by
  obtain ⟨t1, t2, t3, ⟨kl, t4⟩, t5⟩ := h
  have g1 := h139 f hf
  have same : ∀ a x : Int, (a ≠ 16 ∨ x ≠ 1) → (a ≠ K 15 f ∨ x ≠ 10) → K4 a x = K a x := fun a x h1 h2 => by rw [e4, e3_up_ne (fun z => by omega), e3_up_ne (fun z => by omega)]
  have e15 : ∀ f' : Nat, K4 15 f' = K 15 f' := fun f' => same 15 f' (by omega) (by omega)
  have e161 : K4 16 1 = K (K 15 f) 10 := by rw [e4, e3_up_self]
  have e164 : K4 16 4 = K 16 4 := same 16 4 (by omega) (by omega)
  have e10 : K4 (K4 15 f) 10 = K 16 1 := by rw [e15, e4, e3_up_ne (fun z => by omega), e3_up_self]
  have e10' : ∀ f' : Nat, f' < nf → f' ≠ f → K4 (K4 15 f') 10 = K (K 15 f') 10 := fun f' hf' hne => by
    rw [e15]
    have := (t3 f' f hf' hf hne).2
    have := h139 f' hf'
    exact same _ 10 (by omega) (by omega)
  have tne : ∀ t : Int, g_at G t (105, 10) → ∀ x : Int, K4 t x = K t x := fun t ht x => by
    have n1 : t ≠ 16 := fun z => by rw [z] at ht; exact absurd (Prod.mk.inj (ga_eq ht hG.1)).1 (by decide)
    have n2 : t ≠ K 15 f := fun z => by rw [z] at ht; exact absurd (Prod.mk.inj (ga_eq ht (hfu f hf))).1 (by decide)
    exact same t x (Or.inl n1) (Or.inl n2)
  have tre : ∀ t : Int, TRE t K G → TRE t K4 G := fun t ht => TRE_eq ht (fun x _ => tne t ht.2.1 x)
  refine ⟨⟨by rw [e161]; exact tre _ (t2 f hf).1, fun f' hf' => ?_, fun f1 f2 hf1 hf2 hne => ?_, ⟨kl, ?_⟩, fun f' hf' => ?_⟩, ⟨e161, e10⟩, e15, e10', same, ⟨[], (List.append_nil _).symm⟩, fun b x c n hb ho => ?_, fun b x hb => same b x (by omega) (by omega)⟩
  · by_cases hz : f' = f
    · rw [hz, e10, e161]
      exact ⟨tre _ t1, fun z => (t2 f hf).2 z.symm⟩
    · rw [e10' f' hf' hz, e161]
      exact ⟨tre _ (t2 f' hf').1, (t3 f' f hf' hf hz).1⟩
  · refine ⟨?_, by rw [e15, e15]; exact (t3 f1 f2 hf1 hf2 hne).2⟩
    by_cases z1 : f1 = f
    · rw [z1, e10, e10' f2 hf2 (by omega)]
      exact fun z => (t2 f2 hf2).2 z.symm
    · by_cases z2 : f2 = f
      · rw [z2, e10, e10' f1 hf1 z1]
        exact (t2 f1 hf1).2
      · rw [e10' f1 hf1 z1, e10' f2 hf2 z2]
        exact (t3 f1 f2 hf1 hf2 hne).1
  · rw [e161, e164]
    obtain ⟨k1, k2, k3, k4⟩ := t4
    exact ⟨k1, k2, k3, t5 f hf⟩
  · rw [e164]
    by_cases hz : f' = f
    · rw [hz, e10]
      exact t4.2.2.2
    · rw [e10' f' hf' hz]
      exact t5 f' hf'
  · obtain ⟨o1, o2, o3, o4, o5⟩ := ho
    refine same b x (Or.inl (fun z => ?_)) ?_
    · rw [z] at hb; exact o1 (Prod.mk.inj (ga_eq hb hG.1)).1
    · by_cases hz : b = K 15 f
      · refine Or.inr ?_
        rw [hz] at hb
        have := (Prod.mk.inj (ga_eq hb (hfu f hf))).1
        rcases o5 with y | y
        · exact absurd this y
        · exact y
      · exact Or.inl hz
end HND
