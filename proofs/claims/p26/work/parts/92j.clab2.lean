theorem DX_0 {σ g : e3_H} {m : Nat} {pn cx : Int → Int} {cnt : Nat} {R : a_RW} {fu : Int} {H K : e3_H} {G : e3_G} (h : DX σ g m pn cx cnt R fu H G) (hf : DF G H K) : DX σ g m pn cx cnt R fu K G := by
  have := DX_keep (E := []) h hf
  rw [List.append_nil] at this
  exact this
/-- the maker and its labels, among the tags -/
def GB (G : e3_G) : Prop := g_at G 16 (104, 8) ∧ g_at G 25 (1, 201)
theorem LF_DF {fr : Nat} {G : e3_G} {H K : e3_H} (hG : GB G) (h : LF fr H K) : DF G H K := by
  refine ⟨fun b x hb => h.1 b x (by omega) (by omega), fun b x c n hb h4 h5 h6 h7 => h.1 b x (fun z => ?_) (fun z => ?_)⟩
  · rw [z] at hb
    have e := ga_eq hb hG.2
    cases e
    exact h7 ⟨rfl, by decide⟩
  · rw [z.1] at hb
    have e := ga_eq hb hG.1
    cases e
    exact h4 rfl
theorem nod_0 {σ : e3_H} {q : Int} (h : nod σ q) (h2 : σ 46 q ≠ 0 ∧ σ 46 q ≠ 6) : (σ 47 q = 0 → σ 46 q = 1) ∧ (σ 47 q = 1 → σ 46 q = 2) ∧ (σ 47 q = 2 → σ 46 q = 3) ∧ (3 ≤ σ 47 q → σ 46 q = 4 ∨ σ 46 q = 5) := by
  obtain ⟨b0, b1, b2, b3, b4, b5, b6⟩ := h
  have hc : σ 46 q = 1 ∨ σ 46 q = 2 ∨ σ 46 q = 3 ∨ σ 46 q = 4 ∨ σ 46 q = 5 := by omega
  rcases hc with z | z | z | z | z
  · have := (b1 z).1; omega
  · have := (b2 z).1; omega
  · have := (b3 z).1; omega
  · have := b4 z; omega
  · have := (b5 z).1; omega
section CL2
variable {σ g : e3_H} {m : Nat} {pn cx : Int → Int} {cnt : Nat} {R : a_RW} {fu : Int} {H : e3_H} {G : e3_G} {π : a_PT} {fr : Nat}
theorem cD_testAt {Q : Int → e3_H → e3_G → Prop} {b : Int × List (Int × Int) → Bool} {M j : Nat} {p : Int} {w : Int × List (Int × Int)} (hD : DX σ g m pn cx cnt R fu H G) (hf : H 16 2 = fu) (hM : MK R b M) (hp : 0 ≤ p ∧ p < cnt) (hj : R[j]? = some w) (h1 : b w = true → ∀ q, tq w.2 (cx p) = some q → (q, cx p) ∈ w.2 → Q (g 0 q) H G) (h0 : b w = false ∨ tq w.2 (cx p) = none → Q (-1) H G) : wD_testAt Q p j (M : Int) H G := by
  obtain ⟨hkd, ⟨f1, f2⟩, ⟨f3, f4⟩, ⟨f5, f6⟩, ⟨f7, f8, f9⟩, hrow, hru⟩ := hD
  have hjl : j < R.length := (List.getElem?_eq_some_iff.mp hj).1
  obtain ⟨⟨a0, a1⟩, a2, ⟨a3, a4⟩, ⟨a5, a6⟩, a7, a8, a9, a10, a11, a12⟩ := hrow j w hj
  obtain ⟨_, _, L, y3, y4, y5, y6, y7, y8, y9⟩ := id f9
  unfold wD_testAt
  rw [m_bit (MK_62 hM) (by omega), hM.2 j, hj]
  simp only
  by_cases hb : b w = true
  · rw [if_pos hb]
    refine brT rfl ⟨by rw [hf]; exact ga_ob (c := 8) f2, by rw [hf, f5]; exact ga_oa f6 (by omega) ⟨by omega, by omega⟩, by rw [hf, f5]; exact ga_ob (c := 11) a1, ?_⟩
    rw [hf, f5]
    refine brF (by omega) ⟨ga_ob (c := 11) a1, ⟨by rw [a5]; omega, by rw [a5, ga_ln a6]; omega, by rw [a5]; exact ⟨_, a6.2⟩⟩, brT (by rw [a5, ga_ln a6]; exact hp.2) ⟨ga_ob (c := 11) a1, by rw [a5]; exact ga_oa a6 (by omega) hp, ?_⟩⟩
    rw [a5]
    show Q (H (H (fu + 3) j + 3) p) H G
    rcases a8 p hp.1 hp.2 with ⟨p', z1, z2, z3⟩ | ⟨z1, z2⟩
    · rw [z3]
      have hcx : cx p = p'.2 := by rw [← z2]; exact (a11 p' z1).2.2.2.2.2.1
      rw [hcx] at h1
      exact h1 hb p'.1 (tq_of w.2 p' a9 z1) z1
    · rw [z2]
      refine h0 (Or.inr ?_)
      cases hq : tq w.2 (cx p) with
      | none => rfl
      | some q =>
        exfalso
        have hm := tq_mem _ _ _ hq
        have hx := a11 (q, cx p) hm
        have hcx : cx (pn q) = cx p := hx.2.2.2.2.2.1
        have hpn : 0 ≤ pn q ∧ pn q < cnt := hx.2.2.2.2.1
        have := y9 (pn q).toNat p.toNat (by omega) (by omega) (by rw [Int.toNat_of_nonneg hpn.1, Int.toNat_of_nonneg hp.1]; exact hcx)
        exact z1 _ hm (by show pn q = p; omega)
  · rw [if_neg hb]
    refine brF (by decide) (h0 (Or.inl ?_))
    cases hz : b w with
    | true => exact absurd hz hb
    | false => rfl
/-- labels that a SORT has behind all others -/
def tlb (σ : e3_H) (m : Nat) (s : Int) : List Int := if s = 0 then [2147483647] else if s = 1 then [0, 1] else if s = 2 then [-1] else -1 :: (lvs σ m s m).map (·.2)
theorem lvs_len {s : Int} : ∀ k : Nat, (lvs σ m s k).length ≤ k := by
  intro k
  induction k with
  | zero => exact Nat.le_refl _
  | succ k ih =>
    show (lvs σ m s k ++ _).length ≤ _
    rw [List.length_append]
    split
    · show _ + 1 ≤ _; omega
    · show _ + 0 ≤ _; omega
theorem cD_last {Q : e3_H → e3_G → Prop} {l : List Int} {s : Int} (hkd : c_kd σ m H ∧ k_inv σ m) (h : LB fr l H) (hl1 : fr + l.length + 2 ≤ 201) (hl3 : 3 ≤ s → fr + l.length + 26 ≤ 201) (hs : 0 ≤ s ∧ s ≤ 100) (hQ : ∀ K, LB fr (l ++ tlb σ m s) K → LF fr H K → Q K G) : wD_pushLastLabels Q s H G := by
  obtain ⟨kd, ki⟩ := hkd
  have hm := ki.2.1
  unfold tlb at hQ
  refine ⟨fun e0 => ?_, fun e0 => ⟨fun e1 => ?_, fun e1 => ⟨fun e2 => ?_, fun e2 => ?_⟩⟩⟩
  · rw [if_pos e0] at hQ
    exact cD_push h (by omega) hQ
  · rw [if_neg e0, if_pos e1] at hQ
    refine cD_push h (by omega) (fun K1 k1 k2 => cD_push k1 (by rw [List.length_append]; show fr + (l.length + 1) < 201; omega) (fun K2 z1 z2 => hQ K2 ?_ (LF_tr k2 z2)))
    rw [List.append_assoc] at z1
    exact z1
  · rw [if_neg e0, if_neg e1, if_pos e2, ← i64_m1] at hQ
    exact cD_push h (by omega) hQ
  · rw [if_neg e0, if_neg e1, if_neg e2] at hQ
    have hl := hl3 (by omega)
    rw [i64_m1]
    refine cD_push h (by omega) (fun K1 k1 k2 => ⟨m + 1, ?_⟩)
    have key : ∀ (d k : Nat) (H2 : e3_H), k + d = m → LB fr (l ++ [-1] ++ (lvs σ m s k).map (·.2)) H2 → LF fr H H2 → wD_pushLastLabels_56 Q (d + 1) s k H2 G := by
      intro d
      induction d with
      | zero =>
        intro k H2 hk hB hF
        have hk : k = m := hk
        subst hk
        refine brF (by rw [hF.1 8 0 (by decide) (by decide), kd.1]; omega) (hQ H2 ?_ hF)
        rw [List.append_assoc] at hB
        exact hB
      | succ d ih =>
        intro k H2 hk hB hF
        have kd2 : c_kd σ m H2 := ckd_eq kd (fun a x ha => hF.1 a x (by omega) (by omega))
        have hk10 := ki.1
        have hlen := lvs_len (σ := σ) (m := m) (s := s) k
        have next : ∀ H3 : e3_H, LB fr (l ++ [-1] ++ (lvs σ m s (k + 1)).map (·.2)) H3 → LF fr H H3 → wD_pushLastLabels_98 Q (fun l1 l2 H G => wD_pushLastLabels_56 Q (d + 1) l1 l2 H G) s k H3 G := fun H3 b3 f3 => by
          show wD_pushLastLabels_56 Q (d + 1) s (e3_w32 ((k : Int) + 1)) H3 G
          rw [e3_w32_id (x := (k : Int) + 1) (by omega) (by omega)]
          exact ih (k + 1) H3 (by omega) b3 f3
        have skip : ¬ (a_sl (σ 43) (k : Int) m = false ∧ a_of (σ 43) (s - 3) 24 (k : Int) = true) → lvs σ m s (k + 1) = lvs σ m s k := fun hz => by
          show lvs σ m s k ++ (if a_sl (σ 43) (k : Int) m = false ∧ a_of (σ 43) (s - 3) 24 (k : Int) = true then [((k : Int), (k : Int))] else []) = _
          rw [if_neg hz, List.append_nil]
        refine brT (by rw [kd2.1]; omega) (brF (by omega) (brT (by rw [kd2.1]; omega) ⟨⟨by omega, by omega⟩, ?_⟩))
        rw [(kd2.2 k (by omega)).2.2.2.2]
        refine ⟨fun hz => ⟨Or.inr rfl, brF (by decide) ?_⟩, fun hz => ⟨Or.inl rfl, brT rfl (next H2 ?_ hF)⟩⟩
        · have hsl : a_sl (σ 43) (k : Int) m = false := by
            cases hy : a_sl (σ 43) (k : Int) m with
            | false => rfl
            | true => rw [if_pos hy] at hz; omega
          rw [e3_w32_id (x := s - 3) (by omega) (by omega)]
          refine cK_isOrUnder kd2.1 ki.2.1 ki.2.2.2.1 (fun j hj => (kd2.2 j hj).2.1) (by omega) (fun hy => brF (by decide) ?_) (fun hy => brT rfl (next H2 ?_ hF))
          · refine cD_push hB (by rw [List.length_append, List.length_append, List.length_map]; show fr + (l.length + 1 + _) < 201; omega) (fun K3 b3 f3 => next K3 ?_ (LF_tr hF f3))
            have e : lvs σ m s (k + 1) = lvs σ m s k ++ [((k : Int), (k : Int))] := by
              show lvs σ m s k ++ (if a_sl (σ 43) (k : Int) m = false ∧ a_of (σ 43) (s - 3) 24 (k : Int) = true then [((k : Int), (k : Int))] else []) = _
              rw [if_pos ⟨hsl, hy⟩]
            rw [e, List.map_append, ← List.append_assoc]
            exact b3
          · rw [skip (fun z => by rw [hy] at z; exact absurd z.2 (by decide))]
            exact hB
        · have hsl : a_sl (σ 43) (k : Int) m = true := by
            cases hy : a_sl (σ 43) (k : Int) m with
            | true => rfl
            | false => rw [hy] at hz; exact absurd rfl hz
          rw [skip (fun z => by rw [hsl] at z; exact absurd z.1 (by decide))]
          exact hB
    exact key m 0 K1 (by omega) (by show LB fr (l ++ [-1] ++ []) K1; rw [List.append_nil]; exact k1) k2
end CL2
