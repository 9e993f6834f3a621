/-- which place a NAME's number holds -/
def nmp (σ : e3_H) (pn : Int → Int) (V : List (Int × Int)) (k : Int) : Int := V.foldl (fun acc p => if σ 53 p.1 = k ∨ σ 54 p.1 = k then pn p.1 else acc) 0
/-- a Row of the class that visited V -/
def c_row (R ru : Int) (cnt : Nat) (V : List (Int × Int)) (σ g : e3_H) (pn : Int → Int) (H : e3_H) : Prop := H R 0 = ru ∧ H R 1 = (tl σ V).length ∧ (H R 2 = R + 2 ∧ H R 3 = R + 3 ∧ H R 4 = R + 1) ∧ (∀ (i : Nat) (p : Int × Int), (tl σ V)[i]? = some p → H (R + 2) i = g 0 p.1) ∧ (∀ x : Int, 0 ≤ x → x < cnt → (∃ p, p ∈ tl σ V ∧ pn p.1 = x ∧ H (R + 3) x = g 0 p.1) ∨ ((∀ p, p ∈ tl σ V → pn p.1 ≠ x) ∧ H (R + 3) x = -1)) ∧ ∀ k : Int, 0 ≤ k → k < 8 → H (R + 1) k = nmp σ pn V k
section CROW2
variable {R ru : Int} {cnt : Nat} {σ g : e3_H} {pn : Int → Int}
theorem o_nm_1 {k pl j : Int} {H : e3_H} (hj : 0 ≤ j) : o_nm R k pl H (R + 1) j = if k = j then pl else H (R + 1) j := by
  unfold o_nm
  by_cases h4 : k = -4
  · rw [if_pos h4, if_neg (by omega)]
  · rw [if_neg h4]
    by_cases hk : k = j
    · rw [if_pos hk, hk, e3_up_self]
    · rw [if_neg hk, e3_up_ne (fun z => hk z.2.symm)]
theorem nmp_snoc {V : List (Int × Int)} {p : Int × Int} {k : Int} : nmp σ pn (V ++ [p]) k = if σ 53 p.1 = k ∨ σ 54 p.1 = k then pn p.1 else nmp σ pn V k := by
  unfold nmp
  rw [List.foldl_append]
  rfl
theorem rw_1_nm {q j : Int} {H : e3_H} (hj : 0 ≤ j) : rw_1 R pn σ g q H (R + 1) j = if σ 53 q = j ∨ σ 54 q = j then pn q else H (R + 1) j := by
  have h : o_nm R (σ 54 q) (pn q) (o_nm R (σ 53 q) (pn q) H) (R + 1) j = if σ 53 q = j ∨ σ 54 q = j then pn q else H (R + 1) j := by
    rw [o_nm_1 hj, o_nm_1 hj]
    by_cases h4 : σ 54 q = j
    · rw [if_pos h4, if_pos (Or.inr h4)]
    · rw [if_neg h4]
      by_cases h3 : σ 53 q = j
      · rw [if_pos h3, if_pos (Or.inl h3)]
      · rw [if_neg h3, if_neg (fun z => z.elim h3 h4)]
  unfold rw_1
  split
  · exact h
  · unfold o_ts
    rw [e3_up_ne (ne_1 (by omega)), e3_up_ne (ne_1 (by omega)), e3_up_ne (ne_1 (by omega))]
    exact h
theorem c_row_1 {V : List (Int × Int)} {q x : Int} {H : e3_H} (h : c_row R ru cnt V σ g pn H) (hd : σ 46 q ≠ 0 → σ 46 q ≠ 6 → ∀ p, p ∈ tl σ V → pn p.1 ≠ pn q) : c_row R ru cnt (V ++ [(q, x)]) σ g pn (rw_1 R pn σ g q H) := by
  obtain ⟨h1, h2, ⟨h3, h4, h5⟩, h6, h7, h8⟩ := h
  refine ⟨by rw [rw_1_R (by decide)]; exact h1, ?_, ⟨by rw [rw_1_R (by decide)]; exact h3, by rw [rw_1_R (by decide)]; exact h4, by rw [rw_1_R (by decide)]; exact h5⟩, ?_, ?_, fun k k0 k8 => ?_⟩
  · rw [rw_1_c, h2, ← tl_len, ← tl_len, tsn_app]
    show _ = tsn σ V + ((if σ 46 q = 0 ∨ σ 46 q = 6 then 0 else 1) + 0)
    omega
  · intro i p hp
    rw [tl_app] at hp
    by_cases hz : σ 46 q = 0 ∨ σ 46 q = 6
    · have e0 : tl σ [(q, x)] = [] := tl_neg hz
      rw [e0, List.append_nil] at hp
      have e1 : rw_1 R pn σ g q H (R + 2) i = H (R + 2) i := by
        unfold rw_1
        rw [if_pos hz, o_nm_at (by omega), o_nm_at (by omega)]
      rw [e1]
      exact h6 i p hp
    · have e0 : tl σ [(q, x)] = [(q, x)] := tl_pos hz
      rw [e0] at hp
      have e1 : rw_1 R pn σ g q H (R + 2) i = if (i : Int) = H R 1 then g 0 q else H (R + 2) i := by
        unfold rw_1
        rw [if_neg hz]
        unfold o_ts
        rw [e3_up_ne (ne_1 (by omega)), e3_up_ne (ne_1 (by omega))]
        by_cases hi : (i : Int) = H R 1
        · rw [if_pos hi, hi, e3_up_self]
        · rw [if_neg hi, e3_up_ne (fun z => hi z.2), o_nm_at (by omega), o_nm_at (by omega)]
      rw [e1, h2]
      by_cases hi : i < (tl σ V).length
      · rw [List.getElem?_append_left hi] at hp
        rw [if_neg (by omega)]
        exact h6 i p hp
      · rw [List.getElem?_append_right (by omega)] at hp
        by_cases hi2 : i = (tl σ V).length
        · rw [hi2, Nat.sub_self] at hp
          rw [if_pos (by omega)]
          have hp : some (q, x) = some p := hp
          cases hp
          rfl
        · rw [List.getElem?_eq_none (by show 1 ≤ _; omega)] at hp
          cases hp
  · intro y y0 y1
    rw [tl_app]
    by_cases hz : σ 46 q = 0 ∨ σ 46 q = 6
    · have e0 : tl σ [(q, x)] = [] := tl_neg hz
      rw [e0, List.append_nil]
      have e1 : rw_1 R pn σ g q H (R + 3) y = H (R + 3) y := by
        unfold rw_1
        rw [if_pos hz, o_nm_at (by omega), o_nm_at (by omega)]
      rw [e1]
      exact h7 y y0 y1
    · have e0 : tl σ [(q, x)] = [(q, x)] := tl_pos hz
      rw [e0]
      have e1 : rw_1 R pn σ g q H (R + 3) y = if y = pn q then g 0 q else H (R + 3) y := by
        unfold rw_1
        rw [if_neg hz]
        unfold o_ts
        rw [e3_up_ne (ne_1 (by omega))]
        by_cases hi : y = pn q
        · rw [if_pos hi, hi, e3_up_self]
        · rw [if_neg hi, e3_up_ne (fun z => hi z.2), e3_up_ne (ne_1 (by omega)), o_nm_at (by omega), o_nm_at (by omega)]
      rw [e1]
      by_cases hi : y = pn q
      · rw [if_pos hi]
        exact Or.inl ⟨(q, x), List.mem_append_right _ (List.mem_singleton.mpr rfl), hi.symm, rfl⟩
      · rw [if_neg hi]
        rcases h7 y y0 y1 with ⟨p, p1, p2, p3⟩ | ⟨p1, p2⟩
        · exact Or.inl ⟨p, List.mem_append_left _ p1, p2, p3⟩
        · refine Or.inr ⟨fun p hp => ?_, p2⟩
          rcases List.mem_append.mp hp with z | z
          · exact p1 p z
          · rw [List.mem_singleton.mp z]
            exact fun z => hi z.symm
  · rw [rw_1_nm k0, nmp_snoc, h8 k k0 k8]
theorem c_row_st : ∀ (V V0 : List (Int × Int)) (H : e3_H), c_row R ru cnt V0 σ g pn H → (tl σ (V0 ++ V)).Pairwise (fun a b => pn a.1 ≠ pn b.1) → c_row R ru cnt (V0 ++ V) σ g pn (rw_st R pn σ g V H) := by
  intro V
  induction V with
  | nil => intro V0 H h _; rw [List.append_nil]; exact h
  | cons p l ih =>
    intro V0 H h hp
    rw [List.append_cons] at hp ⊢
    refine ih _ _ (c_row_1 h (fun z0 z6 a ha => ?_)) hp
    rw [tl_app, tl_app] at hp
    have e0 : tl σ [p] = [p] := tl_pos (fun z => z.elim z0 z6)
    rw [e0] at hp
    exact (List.pairwise_append.mp (List.pairwise_append.mp hp).1).2.2 a ha p (List.mem_singleton.mpr rfl)
theorem c_row_eq {V : List (Int × Int)} {H K : e3_H} (h : c_row R ru cnt V σ g pn H) (e : ∀ a x : Int, R ≤ a → a ≤ R + 3 → K a x = H a x) : c_row R ru cnt V σ g pn K := by
  obtain ⟨h1, h2, ⟨h3, h4, h5⟩, h6, h7, h8⟩ := h
  refine ⟨by rw [e _ _ (by omega) (by omega)]; exact h1, by rw [e _ _ (by omega) (by omega)]; exact h2, ⟨by rw [e _ _ (by omega) (by omega)]; exact h3, by rw [e _ _ (by omega) (by omega)]; exact h4, by rw [e _ _ (by omega) (by omega)]; exact h5⟩, fun i p hp => by rw [e _ _ (by omega) (by omega)]; exact h6 i p hp, fun x x0 x1 => ?_, fun k k0 k8 => by rw [e _ _ (by omega) (by omega)]; exact h8 k k0 k8⟩
  rw [e _ _ (by omega) (by omega)]
  exact h7 x x0 x1
end CROW2
