/-- a mask of rows -/
def MK (R : a_RW) (b : Int × List (Int × Int) → Bool) (M : Nat) : Prop := M < 2 ^ 40 ∧ ∀ i : Nat, M.testBit i = (match R[i]? with
  | none => false
  | some w => b w)
theorem MK_62 {R : a_RW} {b : Int × List (Int × Int) → Bool} {M : Nat} (h : MK R b M) : M < 2 ^ 62 := Nat.lt_of_lt_of_le h.1 (Nat.pow_le_pow_right (by omega) (by omega))
section CST
variable {σ g : e3_H} {m : Nat} {pn cx : Int → Int} {cnt : Nat} {R : a_RW} {fu : Int} {H : e3_H} {G : e3_G} {π : a_PT}
theorem cD_still {Q : Int → e3_H → e3_G → Prop} {b : Int × List (Int × Int) → Bool} {M0 : Nat} (hD : DX σ g m pn cx cnt R fu H G) (hf : H 16 2 = fu) (hK : DK π cx cnt H G) (hP : PK π) (hM : MK R b M0) (hL : ∀ w, w ∈ R → b w = true → ∀ p, p ∈ w.2 → σ 46 p.1 = 5 → ∀ v, kn π p.2 = some v → v.2 = -1 ∨ (0 ≤ v.2 ∧ v.2 < m)) (hQ : ∀ M1 : Nat, MK R (fun w => b w && posb σ π w.2) M1 → Q (M1 : Int) H G) : wD_stillPossible Q (M0 : Int) H G := by
  obtain ⟨hkd, ⟨f1, f2⟩, ⟨f3, f4⟩, ⟨f5, f6⟩, ⟨f7, f8, f9⟩, hrow, hru⟩ := hD
  have ob : e3_ob G 8 (H 16 2) := by rw [hf]; exact ga_ob (c := 8) f2
  have m62 := MK_62 hM
  have key : ∀ (d j : Nat) (M : Nat), j + d = R.length → M < 2 ^ 40 → (∀ i : Nat, M.testBit i = (decide (i < j) && (match R[i]? with
    | none => false
    | some w => b w && posb σ π w.2))) → wD_stillPossible_5 Q (d + 1) (M0 : Int) (M : Int) j H G := by
    intro d
    induction d with
    | zero =>
      intro j M hj h40 ht
      refine ⟨ob, brF (by rw [hf, f3]; omega) (hQ M ⟨h40, fun i => ?_⟩)⟩
      rw [ht i]
      by_cases hi : i < j
      · rw [decide_eq_true hi, Bool.true_and]
      · rw [decide_eq_false hi, Bool.false_and, List.getElem?_eq_none (by omega)]
    | succ d ih =>
      intro j M hj h40 ht
      have hjR : j < R.length := by omega
      have hw : R[j]? = some R[j] := List.getElem?_eq_getElem hjR
      have next : ∀ M2 : Nat, M2 < 2 ^ 40 → (∀ i : Nat, M2.testBit i = (decide (i < j + 1) && (match R[i]? with
        | none => false
        | some w => b w && posb σ π w.2))) → wD_stillPossible_52 Q (fun l1 l3 l5 H G => wD_stillPossible_5 Q (d + 1) l1 l3 l5 H G) (M0 : Int) (M2 : Int) j H G := fun M2 h2 t2 => by
        show wD_stillPossible_5 Q (d + 1) (M0 : Int) (M2 : Int) (e3_w32 ((j : Int) + 1)) H G
        rw [e3_w32_id (x := (j : Int) + 1) (by omega) (by omega)]
        exact ih (j + 1) M2 (by omega) h2 t2
      have same : (b R[j] && posb σ π R[j].2) = false → ∀ i : Nat, M.testBit i = (decide (i < j + 1) && (match R[i]? with
        | none => false
        | some w => b w && posb σ π w.2)) := fun hz i => by
        rw [ht i]
        by_cases hi : i = j
        · subst hi
          rw [hw]
          simp only [hz, Bool.and_false]
        · have : decide (i < j + 1) = decide (i < j) := by
            by_cases hlt : i < j
            · rw [decide_eq_true hlt, decide_eq_true (by omega)]
            · rw [decide_eq_false hlt, decide_eq_false (by omega)]
          rw [this]
      refine ⟨ob, brT (by rw [hf, f3]; omega) ?_⟩
      rw [m_bit m62 (by omega), hM.2 j, hw]
      simp only
      by_cases hb : b R[j] = true
      · rw [if_pos hb]
        refine brT rfl ⟨ob, ?_, ?_⟩
        · rw [hf, f5]; exact ga_oa f6 (by omega) ⟨by omega, by omega⟩
        · rw [hf, f5]
          refine cD_isPossible hkd (hrow j _ hw) f8 hK hP (fun p hp h5 v hv => hL _ (List.getElem_mem hjR) hb p hp h5 v hv) (fun z => brF (by decide) ?_) (fun z => brT rfl (next M h40 (same (by rw [z, Bool.and_false]))))
          rw [m_shl (by omega), m_or (Nat.lt_of_lt_of_le h40 (Nat.pow_le_pow_right (by omega) (by omega))) (Nat.pow_lt_pow_right (by omega) (by omega))]
          refine next (M ||| 2 ^ j) (Nat.or_lt_two_pow h40 (Nat.pow_lt_pow_right (by omega) (by omega))) (fun i => ?_)
          rw [Nat.testBit_or, Nat.testBit_two_pow, ht i]
          by_cases hi : i = j
          · subst hi
            rw [hw]
            simp [hb, z]
          · have h1 : decide (j = i) = false := decide_eq_false (fun y => hi y.symm)
            have h2 : decide (i < j + 1) = decide (i < j) := by
              by_cases hlt : i < j
              · rw [decide_eq_true hlt, decide_eq_true (by omega)]
              · rw [decide_eq_false hlt, decide_eq_false (by omega)]
            rw [h1, h2, Bool.or_false]
      · rw [if_neg hb]
        refine brF (by decide) (next M h40 (same ?_))
        cases hz : b R[j] with
        | true => exact absurd hz hb
        | false => rfl
  exact ⟨R.length + 1, key R.length 0 0 (by omega) (by decide) (fun i => by rw [Nat.zero_testBit, decide_eq_false (by omega), Bool.false_and])⟩
theorem cF_rowAt {Q : Int → e3_H → e3_G → Prop} {i : Nat} {w : Int × List (Int × Int)} (hD : DX σ g m pn cx cnt R fu H G) (hi : R[i]? = some w) (hQ : Q (H (fu + 3) i) H G) : wF_rowAt Q fu i H G := by
  obtain ⟨_, ⟨f1, f2⟩, ⟨f3, f4⟩, ⟨f5, f6⟩, _⟩ := hD
  have hl : i < R.length := (List.getElem?_eq_some_iff.mp hi).1
  refine brF (by omega) ⟨ga_ob (c := 8) f2, brT (by rw [f3]; omega) ⟨ga_ob (c := 8) f2, ?_, ?_⟩⟩
  · rw [f5]; exact ga_oa f6 (by omega) ⟨by omega, by omega⟩
  · rw [f5]; exact hQ
/-- can a place be asked at -/
theorem cD_can {Q : Int → e3_H → e3_G → Prop} {p : Int} (hD : DX σ g m pn cx cnt R fu H G) (hf : H 16 2 = fu) (hK : DK π cx cnt H G) (hP : PK π) (hp : 0 ≤ p ∧ p < cnt) (h1 : ask π (cx p) = true → Q 1 H G) (h0 : ask π (cx p) = false → Q 0 H G) : wD_canBeAsked Q p H G := by
  obtain ⟨hkd, ⟨f1, f2⟩, ⟨f3, f4⟩, ⟨f5, f6⟩, ⟨f7, f8, f9⟩, hrow, hru⟩ := hD
  obtain ⟨_, _, L, y3, y4, y5, y6, y7, y8, y9⟩ := id f9
  have pos := cx_pos f9
  obtain ⟨k, rfl⟩ : ∃ k : Nat, p = k := ⟨p.toNat, by omega⟩
  obtain ⟨c1, c2, c3⟩ := y8 k (by omega)
  unfold ask at h1 h0
  have obf := ga_ob (c := 8) f2
  refine ⟨by rw [hf]; exact obf, ?_⟩
  rw [hf]
  refine brF (by omega) ⟨obf, brT (by rw [f7]; omega) ⟨obf, ga_oa y3.2 (by omega) ⟨by omega, by omega⟩, ?_⟩⟩
  have hup : (cx k - 1) / 8 = cd cx (H (H fu 8) k) := by rw [c3]; omega
  rw [hup] at h1 h0
  refine cD_isKnown hK hP hp.2 (fun hz => brT rfl ?_) (fun hz v hv _ => brF (by decide) ⟨Or.inl rfl, h0 (by rw [hv]; rfl)⟩)
  have hn : kn π (cx k) = none := by
    rcases hz with z | z
    · omega
    · exact z
  rw [hn] at h1 h0
  refine ⟨fun hu => ⟨Or.inr rfl, h1 ?_⟩, fun hu => ?_⟩
  · have : cd cx (H (H fu 8) k) = 0 := by unfold cd; rw [if_pos hu]
    rw [this]; rfl
  · have ecd : cd cx (H (H fu 8) k) = cx (H (H fu 8) k) := by unfold cd; rw [if_neg hu]
    have hpos := pos (H (H fu 8) k).toNat (by omega)
    rw [Int.toNat_of_nonneg (by omega)] at hpos
    rw [ecd] at h1 h0
    refine cD_isKnown hK hP (by omega) (fun hz => brT rfl ⟨Or.inl rfl, h0 ?_⟩) (fun hz v hv _ => brF (by decide) ⟨Or.inr rfl, h1 ?_⟩)
    · have hn2 : kn π (cx (H (H fu 8) k)) = none := by
        rcases hz with z | z
        · omega
        · exact z
      rw [hn2, decide_eq_false (by omega)]; rfl
    · rw [hv]
      show (true && (_ || true)) = true
      rw [Bool.or_true]; rfl
end CST
