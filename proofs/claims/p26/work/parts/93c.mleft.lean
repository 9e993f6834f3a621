theorem shr_3 {x : Int} (h0 : 0 ≤ x) (h1 : x < 2147483648) : e3_shr x 3 = x / 8 := by
  show ((Int32.ofInt x) >>> ((Int32.ofInt 3) &&& 31)).toInt = x / 8
  rw [show (Int32.ofInt 3) &&& 31 = (3 : Int32) by decide]
  rw [← Int32.toInt_toBitVec, Int32.toBitVec_shiftRight]
  rw [BitVec.toInt_sshiftRight']
  rw [show (BitVec.smod (3:Int32).toBitVec 32).toNat = 3 by decide]
  rw [Int.shiftRight_eq_div_pow, Int32.toInt_toBitVec, Int32.toInt_ofInt_of_le (by omega) (by omega)]
  rfl
section M8
variable {σ : e3_H}
/-- codes of places -/
theorem lyC_m8 {k : Nat} (hR : ∀ c w x V, lyV σ k c w x V → 0 ≤ x → ∀ p, p ∈ V → (p.2 = x ∨ (p.2 - 1) % 8 < 4) ∧ p.2 + 1 ≤ (x + 1) * p8 k) : ∀ (L : List Int) (w x : Int) (V : List (Int × Int)), lyC (lyV σ k) σ L w x V → 0 ≤ x → ∀ p, p ∈ V → ((∃ i : Nat, i < L.length ∧ p.2 = x + i) ∨ (p.2 - 1) % 8 < 4) ∧ p.2 + 1 ≤ (x + L.length) * p8 k := by
  intro L
  induction L with
  | nil => intro w x V h _ p hp; have h : V = [] := h; rw [h] at hp; exact absurd hp (List.not_mem_nil)
  | cons c l ih =>
    intro w x V h hx p hp
    obtain ⟨V1, V2, e, v1, v2⟩ := h
    rw [e] at hp
    have h8 := p8_1 k
    rw [List.length_cons]
    rcases List.mem_append.mp hp with z | z
    · obtain ⟨y1, y2⟩ := hR c _ x V1 v1 hx p z
      refine ⟨?_, ?_⟩
      · rcases y1 with y | y
        · exact Or.inl ⟨0, by omega, by rw [y]; omega⟩
        · exact Or.inr y
      · have : (x + 1) * p8 k ≤ (x + ((l.length + 1 : Nat) : Int)) * p8 k := Int.mul_le_mul_of_nonneg_right (by omega) (by omega)
        omega
    · obtain ⟨y1, y2⟩ := ih _ (x + 1) V2 v2 (by omega) p z
      refine ⟨?_, ?_⟩
      · rcases y1 with ⟨i, i1, i2⟩ | y
        · exact Or.inl ⟨i + 1, by omega, by rw [i2]; omega⟩
        · exact Or.inr y
      · rw [show x + ((l.length + 1 : Nat) : Int) = x + 1 + (l.length : Int) by omega]
        exact y2
theorem lyV_m8 : ∀ (k : Nat) (q w x : Int) (V : List (Int × Int)), lyV σ k q w x V → 0 ≤ x → ∀ p, p ∈ V → (p.2 = x ∨ (p.2 - 1) % 8 < 4) ∧ p.2 + 1 ≤ (x + 1) * p8 k := by
  intro k
  induction k with
  | zero => intro q w x V h; exact h.elim
  | succ k ih =>
    intro q w x V h hx p hp
    obtain ⟨L, V1, _, e, h⟩ := h
    have h8 := p8_1 k
    have e8 : (x + 1) * p8 (k + 1) = 8 * (x + 1) * p8 k := by
      show (x + 1) * (8 * p8 k) = _
      rw [← Int.mul_assoc, Int.mul_comm (x + 1) 8]
    have hle : (x + 1) * p8 k ≤ 8 * (x + 1) * p8 k := Int.mul_le_mul_of_nonneg_right (by omega) (by omega)
    rw [e8]
    rw [e] at hp
    rcases List.mem_cons.mp hp with z | z
    · rw [z]
      refine ⟨Or.inl rfl, ?_⟩
      have : (x + 1) * 1 ≤ (x + 1) * p8 k := Int.mul_le_mul_of_nonneg_left h8 (by omega)
      show x + 1 ≤ _
      omega
    · rcases h with ⟨h6, A, c, B, eA, _, _, v⟩ | ⟨h6, h5, hl, _, v⟩
      · obtain ⟨y1, y2⟩ := ih c _ x V1 v hx p z
        exact ⟨y1, by omega⟩
      · obtain ⟨y1, y2⟩ := lyC_m8 (k := k) (fun c w x V v1 v2 => ih c w x V v1 v2) L w (8 * x + 1) V1 v (by omega) p z
        refine ⟨Or.inr ?_, ?_⟩
        · rcases y1 with ⟨i, i1, i2⟩ | y
          · omega
          · exact y
        · have : (8 * x + 1 + (L.length : Int)) * p8 k ≤ 8 * (x + 1) * p8 k := Int.mul_le_mul_of_nonneg_right (by omega) (by omega)
          omega
theorem m8_of {L : List Int} {w : Int} {V : List (Int × Int)} (hL : L.length ≤ 4) (hv : lyC (lyV σ 6) σ L w 1 V) : ∀ p, p ∈ V → (p.2 - 1) % 8 < 4 ∧ p.2 < 2147483647 := by
  intro p hp
  obtain ⟨y1, y2⟩ := lyC_m8 (k := 6) (fun c w x V v1 v2 => lyV_m8 6 c w x V v1 v2) L w 1 V hv (by omega) p hp
  have e6 : p8 6 = 262144 := by decide
  rw [e6] at y2
  refine ⟨?_, by omega⟩
  rcases y1 with ⟨i, i1, i2⟩ | y
  · omega
  · exact y
end M8
/-- what is known, is known from above -/
theorem kn_up {σ : e3_H} {m : Nat} {R : a_RW} (h8 : ∀ w, w ∈ R → ∀ p, p ∈ w.2 → (p.2 - 1) % 8 < 4) : ∀ (π : a_PT) (y : Int) (v : Int × Int), SP σ m R π → 1 ≤ y → kn π y = some v → (y - 1) % 8 < 4 ∧ ((y - 1) / 8 = 0 ∨ kn π ((y - 1) / 8) ≠ none) := by
  intro π
  induction π with
  | nil => intro y v _ _ h; cases h
  | cons e π ih =>
    intro y v hS hy h
    have up : ∀ u : Int, (u = 0 ∨ kn π u ≠ none) → 0 ≤ u → u = 0 ∨ kn (e :: π) u ≠ none := fun u hu h0 => by
      rcases hu with z | z
      · exact Or.inl z
      · by_cases hz : u = 0
        · exact Or.inl hz
        · refine Or.inr (fun y => ?_)
          cases hk : kn π u with
          | none => exact z hk
          | some v' =>
            rw [kn_mono hS (by omega) hk] at y
            cases y
    unfold kn at h
    split at h
    · rename_i hz
      rcases hS.2 with ⟨z, _⟩ | ⟨z1, z, s, z0, z2, z3, w0, q0, y1, y2, y3⟩
      · omega
      · have hm := h8 w0 y1 (q0, e.1) y3
        have hm : (e.1 - 1) % 8 < 4 := hm
        rw [hz] at hm z
        refine ⟨hm, up _ ?_ (by omega)⟩
        unfold ask at z
        rw [Bool.and_eq_true, Bool.or_eq_true] at z
        rcases z.2 with y | y
        · exact Or.inl (of_decide_eq_true y)
        · refine Or.inr (fun z => ?_)
          rw [z] at y
          cases y
    · obtain ⟨i1, i2⟩ := ih y v hS.1 hy h
      exact ⟨i1, up _ i2 (by omega)⟩
section MLF
variable {Q : Int → e3_H → e3_G → Prop} {σ K : e3_H} {G : e3_G} {m : Nat} {f : Int} {RL : List (Int × Int × List (Int × Int))} {π : a_PT}
theorem cM_isLeft {i : Nat} {e : Int × Int × List (Int × Int)} {x : Int} (hM : M_rows σ K RL) (h40 : RL.length ≤ 40) (hget : RL[i]? = some e) (hf : FLD1 σ π i e K) (hl : lv σ (e.1, tl σ e.2.2) π = true) (h1 : (∃ q, (q, x) ∈ tl σ e.2.2) → kn π x = none → Q 1 K G) (h0 : (kn π x = none → ∀ q, ¬ (q, x) ∈ tl σ e.2.2) → Q 0 K G) : wM_isLeft Q i x K G := by
  obtain ⟨r1, r2, ⟨r3, r4⟩, r5, r6⟩ := hM.2.2.2.2 i e hget
  have h806 := hM.2.2.2.1
  have hi : i < RL.length := (List.getElem?_eq_some_iff.mp hget).1
  have h92 := hf.2 hl
  have tests : ∀ (T2 T1 : List (Int × Int)) (l3 : Int), tl σ e.2.2 = T1 ++ T2 → ((l3 = 0 ∧ ∀ p, p ∈ T1 → p.2 = x → kn π p.2 ≠ none) ∨ (l3 = 1 ∧ ∃ p, p ∈ T1 ∧ p.2 = x ∧ kn π p.2 = none)) → wM_isLeft_10 Q (T2.length + 1) i x l3 (K 88 i + T1.length) K G := by
    intro T2
    induction T2 with
    | nil =>
      intro T1 l3 eT h3
      rw [List.append_nil] at eT
      refine ⟨by rw [e3_w32_id (by omega) (by omega)]; omega, brF (by rw [e3_w32_id (by omega) (by omega), r5, eT]; omega) ?_⟩
      rcases h3 with ⟨z, z2⟩ | ⟨z, p, z2, z3, z4⟩
      · refine ⟨Or.inl z, ?_⟩
        rw [z]
        exact h0 (fun hk q hq => z2 (q, x) (by rw [← eT]; exact hq) rfl hk)
      · refine ⟨Or.inr z, ?_⟩
        rw [z]
        exact h1 ⟨p.1, by rw [eT, ← z3]; exact z2⟩ (by rw [← z3]; exact z4)
    | cons p T2 ih =>
      intro T1 l3 eT h3
      have hTl : (tl σ e.2.2).length = T1.length + (T2.length + 1) := by rw [eT, List.length_append]; rfl
      have hpj : (tl σ e.2.2)[T1.length]? = some p := by rw [eT, List.getElem?_append_right (Nat.le_refl _), Nat.sub_self]; rfl
      obtain ⟨t1, t2, t3⟩ := r6 T1.length p hpj
      have h92p := h92 T1.length p hpj
      have ht : 0 ≤ K 88 i + (T1.length : Int) ∧ K 88 i + (T1.length : Int) < 33000 := by omega
      have next : ∀ s0, ((s0 = 0 ∧ ∀ p', p' ∈ T1 ++ [p] → p'.2 = x → kn π p'.2 ≠ none) ∨ (s0 = 1 ∧ ∃ p', p' ∈ T1 ++ [p] ∧ p'.2 = x ∧ kn π p'.2 = none)) → wM_isLeft_53 Q (fun l1 l2 l3 l4 H G => wM_isLeft_10 Q (T2.length + 1) l1 l2 l3 l4 H G) i x (K 88 i + T1.length) s0 K G := fun s0 hs0 => by
        show wM_isLeft_10 Q (T2.length + 1) i x s0 (e3_w32 (K 88 i + (T1.length : Int) + 1)) K G
        rw [e3_w32_id (by omega) (by omega)]
        have := ih (T1 ++ [p]) s0 (by rw [List.append_assoc]; exact eT) hs0
        rw [List.length_append] at this
        rw [show K 88 i + ((T1.length + [p].length : Nat) : Int) = K 88 i + (T1.length : Int) + 1 by show _ + ((T1.length + 1 : Nat) : Int) = _; omega] at this
        exact this
      refine ⟨by rw [e3_w32_id (by omega) (by omega)]; omega, brT (by rw [e3_w32_id (by omega) (by omega), r5]; omega) ?_⟩
      rcases h3 with ⟨z, z2⟩ | ⟨z, p', z2, z3, z4⟩
      · have no : (p.2 = x → kn π p.2 ≠ none) → ∀ p', p' ∈ T1 ++ [p] → p'.2 = x → kn π p'.2 ≠ none := fun h p' hp' => by
          rcases List.mem_append.mp hp' with y | y
          · exact z2 p' y
          · rw [List.mem_singleton.mp y]; exact h
        refine brT z ⟨ht, ?_⟩
        rw [h92p]
        cases hk : kn π p.2 with
        | none =>
          refine brT rfl ⟨ht, ?_⟩
          rw [t2]
          exact ⟨fun hx => next 1 (Or.inr ⟨rfl, p, List.mem_append_right _ (List.mem_singleton.mpr rfl), hx, hk⟩), fun hx => next 0 (Or.inl ⟨rfl, no (fun y => absurd y hx)⟩)⟩
        | some v =>
          refine brF (by rw [if_pos (show (some v).isSome = true from rfl)]; decide) (next 0 (Or.inl ⟨rfl, no (fun _ y => by rw [hk] at y; cases y)⟩))
      · exact brF (by omega) (next 1 (Or.inr ⟨rfl, p', List.mem_append_left _ z2, z3, z4⟩))
  refine ⟨by omega, (tl σ e.2.2).length + 1, ?_⟩
  have := tests (tl σ e.2.2) [] 0 rfl (Or.inl ⟨rfl, fun p hp => absurd hp (List.not_mem_nil)⟩)
  rw [show K 88 i + (([] : List (Int × Int)).length : Int) = K 88 i by show _ + (0 : Int) = _; omega] at this
  exact this
end MLF
theorem pts_len : ∀ (l : List Int) (a : Int), (pts a l).length = l.length + 1 := by
  intro l
  induction l with
  | nil => intro a; rfl
  | cons c l ih => intro a; show (pts (c + 1) l).length + 1 = _; rw [ih]; rfl
theorem lbs_len {σ : e3_H} {m : Nat} {R : a_RW} {π : a_PT} {x s : Int} (hR : R.length ≤ 40) (hm : m ≤ 24) : (lbs σ m R π x s).length ≤ 99 := by
  have h1 := ltq_len (σ := σ) (π := π) (x := x) R
  have h2 := cuts_len (σ := σ) (ltq σ π x R) []
  have h3 := txs_len (σ := σ) (ltq σ π x R) []
  have h4 := lvs_len (σ := σ) (m := m) (s := s) m
  have e0 : ([] : List Int).length = 0 := rfl
  unfold lbs
  split
  · rw [pts_len]; omega
  · split
    · decide
    · split
      · rw [List.length_append, List.length_map]
        show _ + 1 ≤ 99
        omega
      · rw [List.length_cons]; omega
