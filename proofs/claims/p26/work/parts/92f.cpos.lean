theorem i64_min : (-9223372036854775808 : Int64).toInt = -9223372036854775808 := by decide
theorem i64_m1 : (-1 : Int64).toInt = -1 := by decide
def kv (π : a_PT) (x : Int) : Int := match kn π x with
  | none => -9223372036854775808
  | some v => v.2
/-- what the maker knows -/
def DK (π : a_PT) (cx : Int → Int) (cnt : Nat) (H : e3_H) (G : e3_G) : Prop := ∃ kl : Nat, (24 ≤ H 16 4 ∧ g_at G (H 16 4) (1, kl)) ∧ (cnt ≤ kl ∧ 16 ≤ kl ∧ kl ≤ 1000000) ∧ (H 16 4 = 24 ∨ 139 ≤ H 16 4) ∧ ∀ p : Int, 0 ≤ p → p < cnt → H (H 16 4) p = kv π (cx p)
def PK (π : a_PT) : Prop := ∀ x v, kn π x = some v → v.2 ≠ -9223372036854775808
section CPOS
variable {σ g : e3_H} {m : Nat} {pn cx : Int → Int} {cnt : Nat} {R : a_RW} {fu : Int} {H : e3_H} {G : e3_G} {π : a_PT}
theorem cD_isKnown {Q : Int → e3_H → e3_G → Prop} {p : Int} (hK : DK π cx cnt H G) (hP : PK π) (hp : p < cnt) (h0 : p < 0 ∨ kn π (cx p) = none → Q 0 H G) (h1 : 0 ≤ p → ∀ v, kn π (cx p) = some v → H (H 16 4) p = v.2 → Q 1 H G) : wD_isKnown Q p H G := by
  obtain ⟨kl, ⟨k1, k2⟩, k3, k4, k5⟩ := hK
  refine ⟨fun hz => ⟨Or.inl rfl, h0 (Or.inl hz)⟩, fun hz => ⟨⟨by omega, by rw [ga_ln k2]; omega, kl, k2.2⟩, brT (by rw [ga_ln k2]; omega) ⟨ga_oa k2 (by omega) ⟨by omega, by omega⟩, ?_⟩⟩⟩
  have hv := k5 p (by omega) hp
  rw [hv, i64_min]
  cases hk : kn π (cx p) with
  | none =>
    have : kv π (cx p) = -9223372036854775808 := by unfold kv; rw [hk]
    exact ⟨fun _ => ⟨Or.inl rfl, h0 (Or.inr hk)⟩, fun z => absurd this z⟩
  | some v =>
    have e : kv π (cx p) = v.2 := by unfold kv; rw [hk]
    have := hP _ v hk
    rw [e]
    exact ⟨fun z => absurd z this, fun _ => ⟨Or.inr rfl, h1 (by omega) v hk (by rw [hv, e])⟩⟩
theorem cK_holds {Q : Int → e3_H → e3_G → Prop} {p : Int × Int} {hi : Int} (hd : c_kd σ m H ∧ k_inv σ m) (hp : DXp σ g pn cx cnt H G p) (hh : σ 46 p.1 = 5 → hi = -1 ∨ (0 ≤ hi ∧ hi < m)) (h1 : hld σ p.1 hi = true → Q 1 H G) (h0 : hld σ p.1 hi = false → Q 0 H G) : wK_holds Q (g 0 p.1) hi H G := by
  obtain ⟨⟨p0, p1⟩, p2, p3, p4, p5, p6, p7, p8, p9, p10, p11⟩ := hp
  obtain ⟨kd, ki⟩ := hd
  have ob := ga_ob (c := 10) p1
  have hm := ki.2.1
  refine ⟨ob, ?_⟩
  rw [p2]
  unfold c_wh
  by_cases h5 : σ 46 p.1 = 5
  · rw [if_neg (by omega), if_pos h5]
    refine brT rfl ⟨fun hz => ⟨Or.inl rfl, h0 ?_⟩, fun hz => ⟨ob, ?_⟩⟩
    · unfold hld; rw [if_pos h5, decide_eq_false (by omega), Bool.false_and]
    · have hr : 0 ≤ hi ∧ hi < m := by
        rcases hh h5 with z | z
        · omega
        · exact z
      have n5 := p9.2.2.2.2.2.1 h5
      have e48 : c_lo σ p.1 = σ 48 p.1 := by unfold c_lo; rw [if_pos (by omega)]
      have hk10 := ki.1
      rw [p7, e48, e3_w32_id (x := hi) (by omega) (by omega), e3_w32_id (x := σ 48 p.1) (by omega) (by omega)]
      have ehl : hld σ p.1 hi = a_of (σ 43) (σ 48 p.1) 24 hi := by unfold hld; rw [if_pos h5, decide_eq_true (by omega), Bool.true_and]
      rw [ehl] at h1 h0
      obtain ⟨k, rfl⟩ : ∃ k : Nat, hi = k := ⟨hi.toNat, by omega⟩
      exact cK_isOrUnder kd.1 ki.2.1 ki.2.2.2.1 (fun j hj => (kd.2 j hj).2.1) (by omega) (fun z => brF (by decide) ⟨Or.inr rfl, h1 z⟩) (fun z => brT rfl ⟨Or.inl rfl, h0 z⟩)
  · have hw : (if σ 46 p.1 = 0 then (0 : Int) else if σ 46 p.1 = 5 then 2 else if σ 46 p.1 = 6 then 3 else 1) ≠ 2 := by
      rw [if_neg h5]
      split
      · decide
      · split <;> decide
    have ehl : hld σ p.1 hi = (decide (c_lo σ p.1 ≤ hi) && decide (hi ≤ c_hi σ p.1)) := by unfold hld; rw [if_neg h5]
    rw [ehl] at h1 h0
    rw [p7, p8]
    refine brF hw ⟨ob, fun hz => ⟨Or.inl rfl, h0 (by rw [decide_eq_false (by omega), Bool.false_and])⟩, fun hz => ⟨ob, fun hy => ⟨Or.inl rfl, h0 (by rw [decide_eq_false (show ¬ hi ≤ c_hi σ p.1 by omega), Bool.and_false])⟩, fun hy => ⟨Or.inr rfl, h1 (by rw [decide_eq_true (by omega), decide_eq_true (by omega)]; rfl)⟩⟩⟩
/-- do the tests hold where something is known -/
def posb (σ : e3_H) (π : a_PT) : List (Int × Int) → Bool
  | [] => true
  | p :: T => (match kn π p.2 with
    | none => true
    | some v => hld σ p.1 v.2) && posb σ π T
theorem posb_iff : ∀ T : List (Int × Int), posb σ π T = true ↔ ∀ p, p ∈ T → ∀ v, kn π p.2 = some v → hld σ p.1 v.2 = true := by
  intro T
  induction T with
  | nil => exact ⟨fun _ p hp => absurd hp (List.not_mem_nil), fun _ => rfl⟩
  | cons a T ih =>
    show ((match kn π a.2 with
    | none => true
    | some v => hld σ a.1 v.2) && posb σ π T) = true ↔ _
    rw [Bool.and_eq_true, ih]
    constructor
    · rintro ⟨h1, h2⟩ p hp v hv
      rcases List.mem_cons.mp hp with z | z
      · rw [z] at hv ⊢
        rw [hv] at h1
        exact h1
      · exact h2 p z v hv
    · intro h
      refine ⟨?_, fun p hp => h p (List.mem_cons_of_mem _ hp)⟩
      cases hk : kn π a.2 with
      | none => rfl
      | some v => exact h a (List.mem_cons_self ..) v hk
theorem cD_isPossible {Q : Int → e3_H → e3_G → Prop} {a : Int} {w : Int × List (Int × Int)} (hd : c_kd σ m H ∧ k_inv σ m) (hw : DXr σ g pn cx cnt H G a w) (hc : cnt ≤ 100000) (hK : DK π cx cnt H G) (hP : PK π) (hL : ∀ p, p ∈ w.2 → σ 46 p.1 = 5 → ∀ v, kn π p.2 = some v → v.2 = -1 ∨ (0 ≤ v.2 ∧ v.2 < m)) (h1 : posb σ π w.2 = true → Q 1 H G) (h0 : posb σ π w.2 = false → Q 0 H G) : wD_isPossible Q a H G := by
  obtain ⟨⟨a0, a1⟩, a2, ⟨a3, a4⟩, ⟨a5, a6⟩, a7, a8, a9, a10, a11, a12⟩ := hw
  have ob := ga_ob (c := 11) a1
  have key : ∀ (T2 T1 : List (Int × Int)), w.2 = T1 ++ T2 → (posb σ π T2 = true → Q 1 H G) → (posb σ π T2 = false → Q 0 H G) → wD_isPossible_2 Q (T2.length + 1) a T1.length H G := by
    intro T2
    induction T2 with
    | nil =>
      intro T1 e k1 _
      rw [List.append_nil] at e
      exact ⟨ob, brF (by rw [a2, e]; omega) (k1 rfl)⟩
    | cons p T2 ih =>
      intro T1 e k1 k0
      have hm : p ∈ w.2 := by rw [e]; exact List.mem_append_right _ (List.mem_cons_self ..)
      have hlen : w.2.length = T1.length + (T2.length + 1) := by rw [e, List.length_append]; rfl
      have hat : H (a + 2) T1.length = g 0 p.1 := a7 T1.length p (by rw [e, List.getElem?_append_right (Nat.le_refl _), Nat.sub_self]; rfl)
      have hp := a11 p hm
      have obp := ga_ob (c := 10) hp.1.2
      refine ⟨ob, brT (by rw [a2]; omega) ⟨ob, ?_, ?_, ?_⟩⟩
      · rw [a3]; exact ga_oa a4 (by omega) ⟨by omega, by omega⟩
      · rw [a3, hat]; exact obp
      · rw [a3, hat, hp.2.2.2.1]
        have hnext : posb σ π T2 = posb σ π (p :: T2) → wD_isPossible_50 Q (fun l1 l2 H G => wD_isPossible_2 Q (T2.length + 1) l1 l2 H G) a T1.length H G := fun heq => by
          show wD_isPossible_2 Q (T2.length + 1) a (e3_w32 ((T1.length : Int) + 1)) H G
          rw [e3_w32_id (x := (T1.length : Int) + 1) (by omega) (by omega)]
          have := ih (T1 ++ [p]) (by rw [List.append_assoc]; exact e) (fun z => k1 (by rw [← heq]; exact z)) (fun z => k0 (by rw [← heq]; exact z))
          rw [List.length_append] at this
          exact this
        have hcx : cx (pn p.1) = p.2 := hp.2.2.2.2.2.1
        refine cD_isKnown hK hP hp.2.2.2.2.1.2 (fun hz => brT rfl (hnext ?_)) (fun hz v hv hx => brF (by decide) ⟨obp, ?_, ?_⟩)
        · have hn : kn π p.2 = none := by
            rcases hz with z | z
            · have := hp.2.2.2.2.1.1; omega
            · rw [hcx] at z; exact z
          show posb σ π T2 = ((match kn π p.2 with
            | none => true
            | some v => hld σ p.1 v.2) && posb σ π T2)
          rw [hn]
          rfl
        · obtain ⟨kl, ⟨x1, x2⟩, x3, _⟩ := id hK
          rw [hp.2.2.2.1]
          have := hp.2.2.2.2.1
          exact ga_oa x2 (by omega) ⟨by omega, by omega⟩
        · rw [hcx] at hv
          rw [hp.2.2.2.1, hx]
          have hpb : posb σ π (p :: T2) = (hld σ p.1 v.2 && posb σ π T2) := by
            show ((match kn π p.2 with
            | none => true
            | some v => hld σ p.1 v.2) && posb σ π T2) = _
            rw [hv]
          refine cK_holds hd hp (fun h5 => hL p hm h5 v hv) (fun z => brF (by decide) (hnext (by rw [hpb, z, Bool.true_and]))) (fun z => brT rfl (k0 (by rw [hpb, z, Bool.false_and])))
  exact ⟨w.2.length + 1, key w.2 [] rfl h1 h0⟩
end CPOS
