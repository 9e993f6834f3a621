/-- a label as the reference keeps it -/
def LBQ (σ : e3_H) (R : a_RW) (e : Int × Int × Int) (π : a_PT) (L : Int × Int × Int × Int) : Prop := ∀ s, (∀ w, w ∈ R → lv σ w π = true → ∀ q, (q, e.1) ∈ w.2 → σ 47 q = s) → L = enc s e.2
def lb4 (K : e3_H) (n : Int) : Int × Int × Int × Int := (K 111 n, K 112 n, K 113 n, K 114 n)
/-- what a node's path tells, as the reference keeps it -/
def KL (σ : e3_H) (R : a_RW) (K : e3_H) : a_PT → List (Int × Int) → Prop
  | [], L => L = []
  | e :: π, L => (e.1 = 0 ∧ KL σ R K π L) ∨ (e.1 ≠ 0 ∧ ∃ n L', L = (e.1, n) :: L' ∧ (0 ≤ n ∧ n < 3900) ∧ LBQ σ R e π (lb4 K n) ∧ KL σ R K π L')
/-- a step that a tree takes -/
def stp (σ : e3_H) (m : Nat) (R : a_RW) (way : Int) (π : a_PT) (e : Int × Int × Int) : Prop := match fst σ π R 0 with
  | none => False
  | some (_, r, T) => match cho σ m R π way T 0 none 0 with
    | none => σ 78 r ≠ 0 ∧ e = (0, r, r)
    | some (q, x) => e.1 = x ∧ (e.2.1, e.2.2) ∈ lbs σ m R π x (σ 47 q)
/-- what a node of the reference holds -/
def ctt (σ : e3_H) (m : Nat) (R : a_RW) (way : Int) (π : a_PT) (K : e3_H) (a : Int) : Prop := match fst σ π R 0 with
  | none => K 102 a = 0 ∧ K 103 a = -4 ∧ K 105 a = -4 ∧ K 106 a = 0
  | some (_, r, T) => match cho σ m R π way T 0 none 0 with
    | none => K 103 a = r ∧ K 105 a = -4 ∧ (σ 78 r = 0 → K 102 a = 1 ∧ K 106 a = 0) ∧ (σ 78 r ≠ 0 → K 102 a = 2 ∧ K 106 a = 1) ∧ (0 ≤ K 104 a ∧ K 104 a < σ 74 r)
    | some (q, x) => K 102 a = ndo (σ 47 q) ∧ K 103 a = -4 ∧ K 105 a = x ∧ K 106 a = ((lbs σ m R π x (σ 47 q)).length : Int)
/-- nodes hang together -/
def LNK (σ : e3_H) (m : Nat) (R : a_RW) (way b : Int) (D : List (a_PT × Int)) (K : e3_H) : Prop := ∀ (j : Nat) (π : a_PT) (par : Int), D[j]? = some (π, par) → K 107 (b + j) = par ∧ ((π = [] ∧ par = -4) ∨ ∃ (e : Int × Int × Int) (π' : a_PT) (i : Nat) (pp : Int), π = e :: π' ∧ i < j ∧ par = b + i ∧ D[i]? = some (π', pp) ∧ stp σ m R way π' e ∧ (e.1 ≠ 0 → LBQ σ R e π' (lb4 K (b + j))))
def CTS (σ : e3_H) (m : Nat) (R : a_RW) (way b : Int) (D : List (a_PT × Int)) (n : Nat) (K : e3_H) : Prop := ∀ (j : Nat) (π : a_PT) (par : Int), j < n → D[j]? = some (π, par) → ctt σ m R way π K (b + j)
/-- what laying what is known may change -/
def mk (K K2 : e3_H) : Prop := (∀ a k : Int, a ≠ 40 → a < 125 ∨ 127 < a → K2 a k = K a k) ∧ ∀ k : Int, k ≠ 105 → K2 40 k = K 40 k
theorem mk_rf (K : e3_H) : mk K K := ⟨fun _ _ _ _ => rfl, fun _ _ => rfl⟩
theorem mk_up {K K2 : e3_H} {a k v : Int} (h : mk K K2) (ha : (125 ≤ a ∧ a ≤ 127) ∨ (a = 40 ∧ k = 105)) : mk K (e3_up K2 a k v) := ⟨fun b j h3 h4 => by rw [e3_up_ne (fun z => by omega)]; exact h.1 b j h3 h4, fun j h3 => by rw [e3_up_ne (fun z => by omega)]; exact h.2 j h3⟩
def KA (L : List (Int × Int)) (K : e3_H) : Prop := K 40 105 = (L.length : Int) ∧ ∀ (i : Nat) (p : Int × Int), L[i]? = some p → K 125 i = p.1 ∧ K 126 i = p.2
section MKN
variable {Q : e3_H → e3_G → Prop} {σ H0 : e3_H} {G : e3_G} {m : Nat} {R : a_RW} {way b : Int} {D : List (a_PT × Int)}
theorem stp_ct {π : a_PT} {e : Int × Int × Int} {K : e3_H} {a : Int} (hr : ∀ w, w ∈ R → (0 ≤ w.1 ∧ w.1 < 192) ∧ ∀ p, p ∈ w.2 → 1 ≤ p.2) (h : stp σ m R way π e) (hc : ctt σ m R way π K a) : (K 102 a = 2 ∧ e.1 = 0 ∧ K 103 a = e.2.1 ∧ (0 ≤ e.2.1 ∧ e.2.1 < 192)) ∨ (K 102 a ≠ 2 ∧ 1 ≤ e.1 ∧ K 105 a = e.1) := by
  unfold stp at h
  unfold ctt at hc
  split at h
  · exact h.elim
  · rename_i i r T hf
    obtain ⟨j, _, hj, hl, _⟩ := fst_some R 0 i (r, T) hf
    have hm := List.mem_of_getElem? hj
    rw [hf] at hc
    simp only at hc
    split at h
    · rename_i hcc
      rw [hcc] at hc
      have hc : K 103 a = r ∧ K 105 a = -4 ∧ (σ 78 r = 0 → K 102 a = 1 ∧ K 106 a = 0) ∧ (σ 78 r ≠ 0 → K 102 a = 2 ∧ K 106 a = 1) ∧ (0 ≤ K 104 a ∧ K 104 a < σ 74 r) := hc
      refine Or.inl ⟨(hc.2.2.2.1 h.1).1, by rw [h.2], by rw [h.2]; exact hc.1, by rw [h.2]; exact (hr _ hm).1⟩
    · rename_i q x hcc
      rw [hcc] at hc
      have hc : K 102 a = ndo (σ 47 q) ∧ K 103 a = -4 ∧ K 105 a = x ∧ K 106 a = ((lbs σ m R π x (σ 47 q)).length : Int) := hc
      have hqx : (q, x) ∈ T := by
        rcases cho_some T 0 none 0 (q, x) hcc with z | z
        · cases z
        · exact z.1
      refine Or.inr ⟨?_, by rw [h.1]; exact (hr _ hm).2 (q, x) hqx, by rw [hc.2.2.1, h.1]⟩
      rw [hc.1]
      unfold ndo
      split
      · decide
      · split
        · decide
        · split <;> decide
theorem cM_kn29 (hb : 0 ≤ b) (hb2 : b + D.length ≤ 3900) (hr : ∀ w, w ∈ R → (0 ≤ w.1 ∧ w.1 < 192) ∧ ∀ p, p ∈ w.2 → 1 ≤ p.2) (hN : LNK σ m R way b D H0) : ∀ (n j : Nat), j < n → CTS σ m R way b D j H0 → ∀ (π : a_PT) (par : Int) (L1 : List (Int × Int)) (K : e3_H), D[j]? = some (π, par) → mk H0 K → KA L1 K → L1.length + j ≤ 299 → (∀ (K2 : e3_H) (L2 : List (Int × Int)), KL σ R H0 π L2 → mk H0 K2 → KA (L1 ++ L2) K2 → (∀ r : Int, K2 127 r = if psd r π = true then 1 else K 127 r) → Q K2 G) → wM_layKnown_29 Q (j + 1) (b + j) K G := by
  intro n
  induction n with
  | zero => intro j h; omega
  | succ n ih =>
    intro j hj hC π par L1 K hD hm hA hL hQ
    have hjD : j < D.length := (List.getElem?_eq_some_iff.mp hD).1
    obtain ⟨n1, n2⟩ := hN j π par hD
    have e107 : K 107 (b + j) = par := by rw [hm.1 107 _ (by decide) (by decide)]; exact n1
    refine ⟨by omega, ?_⟩
    rw [e107]
    rcases n2 with ⟨y1, y2⟩ | ⟨e, π', i, pp, y1, y2, y3, y4, y5, y6⟩
    · refine brT y2 ?_
      have := hQ K [] (by rw [y1]; rfl) hm (by rw [List.append_nil]; exact hA) (fun r => by rw [y1]; rfl)
      exact this
    · refine brF (by omega) ⟨by omega, by omega, ?_⟩
      rw [y3]
      have hCi : CTS σ m R way b D i H0 := fun j' π par h1 h2 => hC j' π par (by omega) h2
      have k102 : K 102 (b + i) = H0 102 (b + i) := hm.1 102 _ (by decide) (by decide)
      have k103 : K 103 (b + i) = H0 103 (b + i) := hm.1 103 _ (by decide) (by decide)
      have k105 : K 105 (b + i) = H0 105 (b + i) := hm.1 105 _ (by decide) (by decide)
      obtain ⟨d, hd⟩ : ∃ d, j = i + 1 + d := ⟨j - i - 1, by omega⟩
      have mono : ∀ (N : Nat) (k : Int) (K : e3_H), wM_layKnown_29 Q N k K G → ∀ d : Nat, wM_layKnown_29 Q (N + d) k K G := by
        intro N
        induction N with
        | zero => intro k K h; exact h.elim
        | succ N ihN =>
          intro k K h d
          rw [show N + 1 + d = (N + d) + 1 by omega]
          obtain ⟨a1, a2, a3⟩ := h
          refine ⟨a1, a2, fun h4 => ?_⟩
          obtain ⟨b1, b2, b3, b4⟩ := a3 h4
          refine ⟨b1, b2, fun h5 => ?_, fun h5 => ?_⟩
          · obtain ⟨c1, c2, c3⟩ := b3 h5
            exact ⟨c1, c2, fun H4 e4 => ⟨(c3 H4 e4).1, ihN _ _ (c3 H4 e4).2 d⟩⟩
          · obtain ⟨c1, c2, c3⟩ := b4 h5
            refine ⟨c1, c2, fun H7 e7 => ⟨(c3 H7 e7).1, fun H10 e10 H12 e12 => ?_⟩⟩
            have := (c3 H7 e7).2 H10 e10 H12 e12
            exact ⟨this.1, ihN _ _ this.2 d⟩
      rcases stp_ct hr y5 (hC i π' pp y2 y4) with ⟨z1, z2, z3, z4⟩ | ⟨z1, z2, z3⟩
      · refine brT (by rw [k102]; exact z1) ⟨by omega, by rw [k103, z3]; exact z4, ?_⟩
        intro H4 e4
        rw [k103, z3, and_1.2] at e4
        have m4 : mk H0 H4 := by rw [e4]; exact mk_up hm (Or.inl (by decide))
        refine ⟨by omega, ?_⟩
        rw [show H4 107 (b + j) = b + i by rw [m4.1 107 _ (by decide) (by decide), n1]; exact y3]
        have := ih i (by omega) hCi π' pp L1 H4 y4 m4 ⟨by rw [e4, e3_up_ne (ne_1 (by decide))]; exact hA.1, fun i p hp => by rw [e4, e3_up_ne (ne_1 (by decide)), e3_up_ne (ne_1 (by decide))]; exact hA.2 i p hp⟩ (by omega) (fun K2 L2 q1 q2 q3 q4 => hQ K2 L2 (by rw [y1]; exact Or.inl ⟨z2, q1⟩) q2 q3 (fun r => by
          rw [q4 r, y1, e4]
          show _ = if ((decide (e.1 = 0) && decide (e.2.1 = r)) || psd r π') = true then 1 else K 127 r
          rw [decide_eq_true z2, Bool.true_and]
          by_cases hz : e.2.1 = r
          · rw [decide_eq_true hz, Bool.true_or, if_pos rfl, hz, e3_up_self]
            split <;> rfl
          · rw [decide_eq_false hz, Bool.false_or, e3_up_ne (fun z => hz z.2.symm)]))
        rw [hd]
        have := mono (i + 1) _ _ this d
        exact this
      · have h105 := hA.1
        refine brF (by rw [k102]; exact z1) ⟨by omega, by omega, ?_⟩
        intro H7 e7
        have f7 : H7 40 105 = (L1.length : Int) := by rw [e7, e3_up_ne (ne_1 (by decide))]; exact h105
        refine ⟨by omega, ?_⟩
        intro H10 e10
        have f10 : H10 40 105 = (L1.length : Int) := by rw [e10, e3_up_ne (ne_1 (by decide))]; exact f7
        intro H12 e12
        rw [f10, e3_w32_id (by omega) (by omega)] at e12
        rw [f7] at e10
        rw [h105, k105, z3] at e7
        have m12 : mk H0 H12 := by rw [e12, e10, e7]; exact mk_up (mk_up (mk_up hm (Or.inl (by decide))) (Or.inl (by decide))) (Or.inr (by decide))
        refine ⟨by omega, ?_⟩
        rw [show H12 107 (b + j) = b + i by rw [m12.1 107 _ (by decide) (by decide), n1]; exact y3]
        have hA12 : KA (L1 ++ [(e.1, b + (j : Int))]) H12 := by
          refine ⟨by rw [e12, e3_up_self, List.length_append]; show _ = ((L1.length + 1 : Nat) : Int); omega, fun k p hp => ?_⟩
          have g5 : H12 125 k = e3_up K 125 L1.length e.1 125 k := by rw [e12, e3_up_ne (ne_1 (by decide)), e10, e3_up_ne (ne_1 (by decide)), e7]
          have g6 : H12 126 k = e3_up H7 126 L1.length (b + (j : Int)) 126 k := by rw [e12, e3_up_ne (ne_1 (by decide)), e10]
          rw [g5, g6]
          by_cases hk : k < L1.length
          · rw [List.getElem?_append_left hk] at hp
            rw [e3_up_ne (fun z => by have := z.2; omega), e3_up_ne (fun z => by have := z.2; omega), e7, e3_up_ne (ne_1 (by decide))]
            exact hA.2 k p hp
          · rw [List.getElem?_append_right (by omega)] at hp
            have h0 : k - L1.length < 1 := (List.getElem?_eq_some_iff.mp hp).1
            have hk2 : k = L1.length := by omega
            rw [hk2, Nat.sub_self] at hp
            have hp : some (e.1, b + (j : Int)) = some p := hp
            cases hp
            rw [hk2, e3_up_self, e3_up_self]
            exact ⟨rfl, rfl⟩
        have := ih i (by omega) hCi π' pp (L1 ++ [(e.1, b + (j : Int))]) H12 y4 m12 hA12 (by rw [List.length_append]; show L1.length + 1 + i ≤ 299; omega) (fun K2 L2 q1 q2 q3 q4 => hQ K2 ((e.1, b + (j : Int)) :: L2) (by rw [y1]; exact Or.inr ⟨by omega, b + (j : Int), L2, rfl, by omega, y6 (by omega), q1⟩) q2 (by rw [List.append_assoc] at q3; exact q3) (fun r => by
          rw [q4 r, y1]
          show _ = if ((decide (e.1 = 0) && decide (e.2.1 = r)) || psd r π') = true then 1 else K 127 r
          rw [decide_eq_false (show ¬ e.1 = 0 by omega), Bool.false_and, Bool.false_or, e12, e3_up_ne (ne_1 (by decide)), e10, e3_up_ne (ne_1 (by decide)), e7, e3_up_ne (ne_1 (by decide))]))
        rw [hd]
        have := mono (i + 1) _ _ this d
        exact this
/-- what is known is laid -/
theorem cM_layKnown {j : Nat} {π : a_PT} {par : Int} (hb : 0 ≤ b) (hb2 : b + D.length ≤ 3900) (hr : ∀ w, w ∈ R → (0 ≤ w.1 ∧ w.1 < 192) ∧ ∀ p, p ∈ w.2 → 1 ≤ p.2) (hN : LNK σ m R way b D H0) (hC : CTS σ m R way b D j H0) (hD : D[j]? = some (π, par)) (hj : j ≤ 299) (hQ : ∀ (K2 : e3_H) (L2 : List (Int × Int)), KL σ R H0 π L2 → mk H0 K2 → KA L2 K2 → (∀ r : Int, 0 ≤ r → r < 192 → K2 127 r = if psd r π = true then 1 else 0) → Q K2 G) : wM_layKnown Q (b + j) H0 G := by
  intro H1 e1
  have m1 : mk H0 H1 := by rw [e1]; exact mk_up (mk_rf H0) (Or.inr (by decide))
  have key : ∀ (d l : Nat) (K : e3_H), l + d = 192 → mk H0 K → K 40 105 = 0 → (∀ r : Int, 0 ≤ r → r < l → K 127 r = 0) → wM_layKnown_7 Q (d + 1) (b + j) l K G := by
    intro d
    induction d with
    | zero =>
      intro l K hl hm h105 h127
      refine brF (by omega) ⟨j + 1, cM_kn29 hb hb2 hr hN (j + 1) j (by omega) hC π par [] K hD hm ⟨h105, fun i p hp => by cases hp⟩ (by show 0 + j ≤ 299; omega) (fun K2 L2 q1 q2 q3 q4 => hQ K2 L2 q1 q2 q3 (fun r r0 r1 => by rw [q4 r, h127 r r0 (by omega)]))⟩
    | succ d ihd =>
      intro l K hl hm h105 h127
      refine brT (by omega) ⟨by omega, ?_⟩
      intro H2 e2
      rw [and_1.1] at e2
      rw [e3_w32_id (by omega) (by omega)]
      have := ihd (l + 1) H2 (by omega) (by rw [e2]; exact mk_up hm (Or.inl (by decide))) (by rw [e2, e3_up_ne (ne_1 (by decide))]; exact h105) (fun r r0 r1 => by
        rw [e2]
        by_cases hz : r = l
        · rw [hz, e3_up_self]
        · rw [e3_up_ne (fun z => hz z.2)]
          exact h127 r r0 (by omega))
      exact this
  exact ⟨193, key 192 0 H1 rfl m1 (by rw [e1, e3_up_self]) (fun r r0 r1 => by omega)⟩
end MKN
