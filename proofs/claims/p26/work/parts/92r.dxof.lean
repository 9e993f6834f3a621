/-- all rows of a FUNCTION, as trees want them -/
def RR (σ : e3_H) (f : Int) (Vs : Int → Int → List (Int × Int)) (un : Bool) (m : Nat) : a_RW := (rls σ f Vs un m).map (fun e => (e.1, tl σ e.2.2))
theorem rls_at {σ : e3_H} {f : Int} {Vs : Int → Int → List (Int × Int)} : ∀ (m i : Nat) (e : Int × Int × List (Int × Int)), (∀ k : Nat, k < m → 0 ≤ σ 74 (16 * f + k)) → (rls σ f Vs false m)[i]? = some e → ∃ (k : Nat) (w : Int), k < m ∧ (0 ≤ w ∧ w < σ 74 (16 * f + k)) ∧ (i : Int) = rsum σ f k + w ∧ e = (16 * f + k, w, Vs k w) := by
  intro m
  induction m with
  | zero => intro i e _ h; cases h
  | succ m ih =>
    intro i e h0 h
    have e1 : rls σ f Vs false (m + 1) = rls σ f Vs false m ++ rlr f m Vs (σ 74 (16 * f + m)).toNat := by
      show rls σ f Vs false m ++ (if false = true ∧ σ 78 (16 * f + m) ≠ 0 then [] else rlr f m Vs (σ 74 (16 * f + m)).toNat) = _
      rw [if_neg (fun z => absurd z.1 (by decide))]
    have hlen : ∀ m : Nat, (∀ k : Nat, k < m → 0 ≤ σ 74 (16 * f + k)) → ((rls σ f Vs false m).length : Int) = rsum σ f m := by
      intro m
      induction m with
      | zero => intro _; rfl
      | succ m ih2 =>
        intro h0
        have := h0 m (by omega)
        have := ih2 (fun k hk => h0 k (by omega))
        show ((rls σ f Vs false m ++ (if false = true ∧ σ 78 (16 * f + m) ≠ 0 then [] else rlr f m Vs (σ 74 (16 * f + m)).toNat)).length : Int) = rsum σ f m + σ 74 (16 * f + m)
        rw [if_neg (fun z => absurd z.1 (by decide)), List.length_append, rlr_len]
        omega
    rw [e1] at h
    have hl := hlen m (fun k hk => h0 k (by omega))
    by_cases hi : i < (rls σ f Vs false m).length
    · rw [List.getElem?_append_left hi] at h
      obtain ⟨k, w, a, b, c, d⟩ := ih i e (fun k hk => h0 k (by omega)) h
      exact ⟨k, w, by omega, b, c, d⟩
    · rw [List.getElem?_append_right (by omega)] at h
      have hw := (List.getElem?_eq_some_iff.mp h).1
      rw [rlr_len] at hw
      unfold rlr at h
      rw [List.getElem?_map, List.getElem?_range hw] at h
      have h : some (16 * f + (m : Int), ((i - (rls σ f Vs false m).length : Nat) : Int), Vs m ((i - (rls σ f Vs false m).length : Nat) : Int)) = some e := h
      cases h
      exact ⟨m, _, by omega, ⟨by omega, by omega⟩, by omega, rfl⟩
theorem rls_len2 {σ : e3_H} {f : Int} {Vs : Int → Int → List (Int × Int)} : ∀ m : Nat, (∀ k : Nat, k < m → 0 ≤ σ 74 (16 * f + k)) → ((rls σ f Vs false m).length : Int) = rsum σ f m := by
  intro m
  induction m with
  | zero => intro _; rfl
  | succ m ih2 =>
    intro h0
    have := h0 m (by omega)
    have := ih2 (fun k hk => h0 k (by omega))
    show ((rls σ f Vs false m ++ (if false = true ∧ σ 78 (16 * f + m) ≠ 0 then [] else rlr f m Vs (σ 74 (16 * f + m)).toNat)).length : Int) = rsum σ f m + σ 74 (16 * f + m)
    rw [if_neg (fun z => absurd z.1 (by decide)), List.length_append, rlr_len]
    omega
section DXO
variable {σ : e3_H} {hi : Int}
theorem lyC_nod {k : Nat} (hR : ∀ c w x V, lyV σ k c w x V → wt σ k hi c → 0 ≤ c → ∀ p, p ∈ V → nod σ p.1) : ∀ (L : List Int) (w x : Int) (V : List (Int × Int)), lyC (lyV σ k) σ L w x V → (∀ c, c ∈ L → wt σ k hi c ∧ 0 ≤ c) → ∀ p, p ∈ V → nod σ p.1 := by
  intro L
  induction L with
  | nil => intro w x V h _ p hp; have h : V = [] := h; rw [h] at hp; exact absurd hp (List.not_mem_nil)
  | cons d l ih =>
    intro w x V h hw p hp
    obtain ⟨V1, V2, e, v1, v2⟩ := h
    rw [e] at hp
    rcases List.mem_append.mp hp with z | z
    · exact hR d _ x V1 v1 (hw d (List.mem_cons_self ..)).1 (hw d (List.mem_cons_self ..)).2 p z
    · exact ih _ (x + 1) V2 v2 (fun c hc => hw c (List.mem_cons_of_mem _ hc)) p z
theorem lyV_nod : ∀ (k : Nat) (q w x : Int) (V : List (Int × Int)), lyV σ k q w x V → wt σ k hi q → 0 ≤ q → ∀ p, p ∈ V → nod σ p.1 := by
  intro k
  induction k with
  | zero => intro q w x V h; exact h.elim
  | succ k ih =>
    intro q w x V h ht hq p hp
    obtain ⟨L, V1, ⟨a1, a2⟩, e, h⟩ := h
    obtain ⟨L2, b1, b2, b3, b4, b5, b6, b7, b8, b9⟩ := ht
    have e1 : ∀ y, y ∈ L2 → y ≠ -4 := fun y hy => by have := (b2 y hy).1; omega
    have hLL : L = L2 := ach_inj L L2 _ a2 e1 a1 b1
    subst hLL
    rw [e] at hp
    rcases List.mem_cons.mp hp with z | z
    · rw [z]; exact b7
    · rcases h with ⟨h6, A, c, B, eA, _, _, v⟩ | ⟨h6, h5, hl, _, v⟩
      · have hm : c ∈ L := by rw [eA]; exact List.mem_append_right _ (List.mem_cons_self ..)
        exact ih c _ x V1 v (b2 c hm).2.2 (by have := (b2 c hm).1; omega) p z
      · exact lyC_nod (k := k) (hi := hi) (fun c w x V v1 v2 v3 => ih c w x V v1 v2 v3) L w (8 * x + 1) V1 v (fun c hc => ⟨(b2 c hc).2.2, by have := (b2 c hc).1; omega⟩) p z
end DXO
/-- a FUNCTION with Rows can be drawn -/
theorem DX_of {σ g K : e3_H} {G : e3_G} {m : Nat} {f : Nat} {Vs : Int → Int → Int → List (Int × Int)} (h : FY σ g Vs f K G) (hkd : c_kd σ m K ∧ k_inv σ m) : ∃ (cx pn : Int → Int) (cnt mr : Nat), σ 70 f = mr ∧ K (K 15 f) 7 = cnt ∧ DX σ (g_3 g cx) m pn cx cnt (RR σ f (Vs f) false mr) (K 15 f) K G := by
  obtain ⟨cx, pn, cnt, mr, A, B, h1, h2, h3, h4, h5, h6, h7⟩ := h
  obtain ⟨b1, b2, b3, b4, ⟨b5, b6, b7, b8⟩, b9, b10⟩ := h1
  have h74 : ∀ k : Nat, k < mr → 0 ≤ σ 74 (16 * (f : Int) + k) := fun k hk => (b9 k hk).2.1
  have hlen := rls_len2 (Vs := Vs f) mr h74
  have hRl : ((RR σ f (Vs f) false mr).length : Int) = rsum σ f mr := by unfold RR; rw [List.length_map]; exact hlen
  have row : ∀ (i : Nat) (w : Int × List (Int × Int)), (RR σ f (Vs f) false mr)[i]? = some w → ∃ (k : Nat) (v : Int), k < mr ∧ (0 ≤ v ∧ v < σ 74 (16 * (f : Int) + k)) ∧ (i : Int) = rsum σ f k + v ∧ w = (16 * (f : Int) + k, tl σ (Vs f k v)) := fun i w hw => by
    unfold RR at hw
    rw [List.getElem?_map] at hw
    cases he : (rls σ f (Vs f) false mr)[i]? with
    | none => rw [he] at hw; cases hw
    | some e =>
      rw [he] at hw
      have hw : some (e.1, tl σ e.2.2) = some w := hw
      cases hw
      obtain ⟨k, v, a, b, c, d⟩ := rls_at mr i e h74 he
      exact ⟨k, v, a, b, c, by rw [d]⟩
  have rowK : ∀ (i : Nat) (w : Int × List (Int × Int)), (RR σ f (Vs f) false mr)[i]? = some w → ∃ (k : Nat) (v : Int), k < mr ∧ w = (16 * (f : Int) + k, tl σ (Vs f k v)) ∧ K (K (K 15 f + 3) i) 0 = A k := fun i w hw => by
    obtain ⟨k, v, a, b, c, d⟩ := row i w hw
    obtain ⟨c1, c2, c3⟩ := h7 k v (Or.inl ⟨a, b.2⟩) b.1
    rw [← c] at c1
    exact ⟨k, v, a, d, by rw [c1, c]; exact c3.1⟩
  refine ⟨cx, pn, cnt, mr, h2, b3, hkd, b1, ⟨by rw [h6, hRl], by omega⟩, b2, ⟨b3, b4, h4⟩, fun i w hw => ?_, fun i j v w hv hw => ?_⟩
  · obtain ⟨k, v, hk, hv, hi, ew⟩ := row i w hw
    subst ew
    obtain ⟨c1, c2, c3⟩ := h7 k v (Or.inl ⟨hk, hv.2⟩) hv.1
    obtain ⟨d1, d2, lo, hi2, L, d3, d4⟩ := b9 k hk
    have hly := d4 v hv.1 hv.2
    obtain ⟨pw1, pw2, pw3⟩ := row_pw d3 hly
    obtain ⟨u1, u2, u3, u4, u5, u6, u7⟩ := d3
    obtain ⟨o1, o2, o3, ⟨o4, o5⟩, ⟨o6, o7⟩, ⟨o8, o9⟩⟩ := c2
    obtain ⟨r1, r2, ⟨r3, r4, r5⟩, r6, r7, r8⟩ := c3
    rw [← hi] at c1 o1 o2 o3 o4 o5 o6 o7 o8 o9 r1 r2 r3 r4 r5 r6 r7 r8
    rw [c1]
    have hrp := rule_PW u6.1 hly
    refine ⟨⟨o1, o2⟩, r2, ⟨r3, o7⟩, ⟨r4, o9⟩, r6, r7, tl_PW hrp, by show (tl σ (Vs f k v)).length ≤ cnt; have := tl_len (σ := σ) (Vs f k v); omega, fun p hp => ?_, ⟨by rw [r1]; exact ⟨u1.2.2.1, u1.1⟩, by rw [r1]; exact u3.2.1⟩⟩
    have hpV := (tl_mem.mp hp)
    obtain ⟨q1, q2, q3⟩ := pw1 p hpV.1
    obtain ⟨⟨p1, p2, p3, p4, p5, p6, p7, p8, p9, p10⟩, _⟩ := (u5 p.1 q1.1 q1.2).1
    have hpn := (u5 p.1 q1.1 q1.2).2
    have hnd := lyC_nod (k := 6) (hi := hi2) (fun c w x V v1 v2 v3 => lyV_nod 6 c w x V v1 v2 v3) L v 1 (Vs f k v) hly (fun c hc => ⟨(u6.2.2.1 c hc).2.2, by have := (u6.2.2.1 c hc).1; omega⟩) p hpV.1
    have hcx : cx (pn p.1) = p.2 := by rw [← q3, g_3_3]
    have hpos : 1 ≤ p.2 := by
      rw [← hcx]
      have := cx_pos h4 (pn p.1).toNat (by omega)
      rw [Int.toNat_of_nonneg q2.1] at this
      exact this
    exact ⟨⟨p1, p2⟩, p3, p4, hpn, q2, hcx, p7, p8, hnd, hpV.2, hpos⟩
  · obtain ⟨k, x, hk, ew, e0⟩ := rowK i v hv
    obtain ⟨k2, x2, hk2, ew2, e02⟩ := rowK j w hw
    rw [e0, e02, ew, ew2]
    refine ⟨fun z => ?_, fun z => ?_⟩
    · obtain ⟨_, _, _, _, _, d3, _⟩ := b9 k hk
      obtain ⟨_, _, _, _, _, d3', _⟩ := b9 k2 hk2
      have a1 := d3.2.2.1.2.2
      have a2 := d3'.2.2.1.2.2
      rw [z] at a1
      show 16 * (f : Int) + k = 16 * (f : Int) + k2
      omega
    · have z : 16 * (f : Int) + k = 16 * (f : Int) + k2 := z
      have : k = k2 := by omega
      rw [this]
