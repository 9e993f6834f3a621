def g_ro (cnt : Nat) : e3_G := [(111, 5), (0, 8), (7, cnt), (7, cnt)]
theorem x_dz11 : e3_dz (wFc.getD 11 []) 1 = 0 := by decide +kernel
section COI
variable {ru : Int} {cnt : Nat} {σ g : e3_H} {pn : Int → Int}
/-- a fresh Row -/
theorem cO_init {Q : e3_H → e3_G → Prop} {H : e3_H} {G : e3_G} (h139 : 139 ≤ (G.length : Int)) (hcn : cnt ≤ 100000) (hQ : ∀ K : e3_H, (∀ a x : Int, a < G.length → K a x = H a x) → O_ob (G.length : Int) ru cnt K (G ++ g_ro cnt) → c_row (G.length : Int) ru cnt [] σ g pn K → Q K (G ++ g_ro cnt)) : wO_init Q (G.length : Int) ru (cnt : Int) (e3_nw H (G.length : Int) (e3_dz (wFc.getD 11 []))) (G ++ [(111, 5)]) := by
  unfold wO_init
  have l0 : (((G ++ [(111, 5)] : e3_G).length : Nat) : Int) = (G.length : Int) + 1 := by rw [List.length_append]; rfl
  have ob : ∀ E : e3_G, e3_ob (G ++ (111, 5) :: E) 11 (G.length : Int) := fun E => ga_ob (c := 11) ga_new
  refine ⟨by omega, ?_⟩
  intro H1 G2 e1 g2
  rw [l0] at e1
  have l2 : ((G2.length : Nat) : Int) = (G.length : Int) + 2 := by rw [g2, List.length_append]; show ((((G ++ [(111, 5)] : e3_G).length + 1 : Nat) : Nat) : Int) = _; omega
  have q2 : G2 = G ++ [(111, 5), (0, 8)] := by rw [g2, List.append_assoc]; rfl
  refine ⟨by rw [q2]; exact ob _, ?_⟩
  intro H3 e3
  rw [l0] at e3
  refine ⟨by rw [q2]; exact ob _, ?_⟩
  intro H5 e5
  refine ⟨⟨by omega, by omega⟩, ?_⟩
  intro H7 G8 e7 g8
  rw [l2] at e7
  have q8 : G8 = G ++ [(111, 5), (0, 8), (7, cnt)] := by rw [g8, q2, List.append_assoc]; rfl
  have l8 : ((G8.length : Nat) : Int) = (G.length : Int) + 3 := by rw [q8, List.length_append]; rfl
  refine ⟨by rw [q8]; exact ob _, ?_⟩
  intro H10 e10
  rw [l2] at e10
  refine ⟨⟨by omega, by omega⟩, ?_⟩
  intro H12 G13 e12 g13
  rw [l8] at e12
  have q13 : G13 = G ++ g_ro cnt := by rw [g13, q8, List.append_assoc]; rfl
  refine ⟨by rw [q13]; exact ob _, ?_⟩
  intro H15 e15
  rw [l8] at e15
  rw [q13]
  have eR : ∀ x : Int, H15 (G.length : Int) x = if x = 3 then (G.length : Int) + 3 else if x = 2 then (G.length : Int) + 2 else if x = 0 then ru else if x = 4 then (G.length : Int) + 1 else e3_dz (wFc.getD 11 []) x := by
    intro x
    rw [e15]
    by_cases h3 : x = 3
    · rw [if_pos h3, h3, e3_up_self]
    · rw [if_neg h3, e3_up_ne (fun z => h3 z.2), e12, nw_ne (by omega), e10]
      by_cases h2 : x = 2
      · rw [if_pos h2, h2, e3_up_self]
      · rw [if_neg h2, e3_up_ne (fun z => h2 z.2), e7, nw_ne (by omega), e5]
        by_cases h0 : x = 0
        · rw [if_pos h0, h0, e3_up_self]
        · rw [if_neg h0, e3_up_ne (fun z => h0 z.2), e3]
          by_cases h4 : x = 4
          · rw [if_pos h4, h4, e3_up_self]
          · rw [if_neg h4, e3_up_ne (fun z => h4 z.2), e1, nw_ne (by omega), nw_at]
  have e1' : ∀ x : Int, H15 ((G.length : Int) + 1) x = 0 := fun x => by
    rw [e15, e3_up_ne (ne_1 (by omega)), e12, nw_ne (by omega), e10, e3_up_ne (ne_1 (by omega)), e7, nw_ne (by omega), e5, e3_up_ne (ne_1 (by omega)), e3, e3_up_ne (ne_1 (by omega)), e1, nw_at]
  have e3' : ∀ x : Int, H15 ((G.length : Int) + 3) x = -1 := fun x => by
    rw [e15, e3_up_ne (ne_1 (by omega)), e12, nw_at]
  refine hQ H15 (fun a x ha => ?_) ⟨h139, ga_new, ?_, ⟨?_, ?_⟩, ⟨?_, ?_⟩, ⟨?_, ?_⟩⟩ ⟨?_, ?_, ⟨?_, ?_, ?_⟩, fun i p hp => ?_, fun x _ _ => Or.inr ⟨fun p hp => ?_, e3' x⟩, fun k _ _ => ?_⟩
  · rw [e15, e3_up_ne (ne_1 (by omega)), e12, nw_ne (by omega), e10, e3_up_ne (ne_1 (by omega)), e7, nw_ne (by omega), e5, e3_up_ne (ne_1 (by omega)), e3, e3_up_ne (ne_1 (by omega)), e1, nw_ne (by omega), nw_ne (by omega)]
  · rw [eR]; rfl
  · rw [eR]; rfl
  · exact ga_mid (k := 1) rfl
  · rw [eR]; rfl
  · exact ga_mid (k := 2) rfl
  · rw [eR]; rfl
  · exact ga_mid (k := 3) rfl
  · rw [eR]; rfl
  · rw [eR]; exact x_dz11
  · rw [eR]; rfl
  · rw [eR]; rfl
  · rw [eR]; rfl
  · cases hp
  · exact absurd hp (List.not_mem_nil)
  · exact e1' k
end COI
