theorem cJ_copyOf {Q : Int → e3_H → e3_G → Prop} {H : e3_H} {G : e3_G} {a : Int} {L : Nat} (h : g_at G a (0, L)) (h2 : 2 ≤ a) (hL : 1 ≤ L ∧ L ≤ 400000) (hQ : ∀ K, (∀ b k : Int, b ≠ G.length → K b k = H b k) → (∀ k : Int, 0 ≤ k → k < L → K G.length k = H a k) → Q G.length K (G ++ [(0, 2 * L)])) : wJ_copyOf_AII Q a (2 * (L : Int)) H G := by
  have hlt := ga_lt h
  have h1 : g_at (G ++ [(0, 2 * L)]) a (0, L) := ga_app h
  have h3 : g_at (G ++ [(0, 2 * L)]) (G.length : Int) (0, 2 * L) := ga_new
  have et : (2 * (L : Int)).toNat = 2 * L := by omega
  unfold wJ_copyOf_AII
  rw [ga_ln h]
  refine ⟨⟨h2, by omega, L, h.2⟩, brF (by omega) ⟨⟨by omega, by omega⟩, ?_⟩⟩
  intro H2 G3 e2 e3
  rw [et] at e3
  subst e3
  rw [ga_ln h1]
  refine ⟨⟨h2, by omega, L, h1.2⟩, ?_⟩
  unfold wJ_min_II wJ_min_II_10
  refine brF (by omega) ⟨⟨by omega, h2, by omega, by omega, by omega, 2 * L, L, h3.2, h1.2, by omega, by omega⟩, ?_⟩
  intro H9 e9
  refine hQ H9 (fun b k hb => ?_) (fun k k0 k1 => ?_)
  · rw [e9]
    unfold e3_cpy
    rw [if_neg (fun z => hb z.1), e2, nw_ne hb]
  · rw [e9]
    unfold e3_cpy
    rw [if_pos ⟨rfl, by omega, by omega⟩, e2, nw_ne (by omega)]
    congr 1
    omega
def cd (cx : Int → Int) (u : Int) : Int := if u < 0 then 0 else cx u
/-- a place in the class's table -/
def c_p1 (H : e3_H) (fu : Int) (cx : Int → Int) (p : Nat) : Prop := (H (H fu 8) p = -1 ∨ (0 ≤ H (H fu 8) p ∧ H (H fu 8) p < p)) ∧ (0 ≤ H (H fu 9) p ∧ H (H fu 9) p ≤ 3) ∧ cx p = 8 * cd cx (H (H fu 8) p) + H (H fu 9) p + 1
def c_pl (H : e3_H) (G : e3_G) (fu : Int) (cx : Int → Int) : Prop := 139 ≤ fu ∧ g_at G fu (108, 11) ∧ ∃ L : Nat, (139 ≤ H fu 8 ∧ g_at G (H fu 8) (0, L)) ∧ (139 ≤ H fu 9 ∧ g_at G (H fu 9) (0, L)) ∧ H fu 8 ≠ H fu 9 ∧ (16 ≤ L ∧ (L = 16 ∨ (L : Int) ≤ 2 * H fu 7) ∧ L % 16 = 0) ∧ (0 ≤ H fu 7 ∧ H fu 7 ≤ L) ∧ (∀ p : Nat, (p : Int) < H fu 7 → c_p1 H fu cx p) ∧ ∀ p q : Nat, (p : Int) < H fu 7 → (q : Int) < H fu 7 → cx p = cx q → p = q
def pot (H : e3_H) (G : e3_G) (fu : Int) : Int := gz G + 16 * H fu 7 - 8 * e3_ln G (H fu 8)
/-- what laying a place may change -/
def pl_fr (fu : Int) (H : e3_H) (G : e3_G) (K : e3_H) (G2 : e3_G) : Prop := (∃ E, G2 = G ++ E) ∧ (∀ a k : Int, a < G.length → a ≠ fu → a ≠ H fu 8 → a ≠ H fu 9 → K a k = H a k) ∧ (∀ k : Int, k ≠ 7 → k ≠ 8 → k ≠ 9 → K fu k = H fu k) ∧ (K fu 8 = H fu 8 ∨ G.length ≤ K fu 8) ∧ (K fu 9 = H fu 9 ∨ G.length ≤ K fu 9)
section CP
variable {H : e3_H} {G : e3_G} {fu : Int} {cx : Int → Int}
theorem cx_pos (h : c_pl H G fu cx) : ∀ p : Nat, (p : Int) < H fu 7 → 1 ≤ cx p := by
  obtain ⟨_, _, L, _, _, _, _, _, h1, _⟩ := h
  intro p
  induction p using Nat.strongRecOn with
  | _ p ih =>
    intro hp
    obtain ⟨a, b, c⟩ := h1 p hp
    rw [c]
    unfold cd
    by_cases hz : H (H fu 8) p < 0
    · rw [if_pos hz]; omega
    · rw [if_neg hz]
      have := ih (H (H fu 8) p).toNat (by omega) (by omega)
      rw [Int.toNat_of_nonneg (by omega)] at this
      omega
theorem cF_place84 {Q : Int → e3_H → e3_G → Prop} {u nu : Int} {L : Nat} (h0 : 139 ≤ fu ∧ g_at G fu (108, 11)) (h8 : 139 ≤ H fu 8 ∧ g_at G (H fu 8) (0, L)) (h9 : 139 ≤ H fu 9 ∧ g_at G (H fu 9) (0, L)) (hne : H fu 8 ≠ H fu 9) (h7 : 0 ≤ H fu 7 ∧ H fu 7 < L ∧ H fu 7 ≤ 100000)
    (hQ : ∀ K, (∀ a k : Int, a ≠ fu → a ≠ H fu 8 → a ≠ H fu 9 → K a k = H a k) → (∀ k : Int, k ≠ 7 → K fu k = H fu k) → K fu 7 = H fu 7 + 1 → (∀ k : Int, k ≠ H fu 7 → K (H fu 8) k = H (H fu 8) k ∧ K (H fu 9) k = H (H fu 9) k) → K (H fu 8) (H fu 7) = u → K (H fu 9) (H fu 7) = nu → Q (H fu 7) K G) : wF_placeIn_84 Q fu u nu H G := by
  have ob := ga_ob (c := 8) h0.2
  have n8 : fu ≠ H fu 8 := ga_ne h0.2 h8.2 (by decide)
  have n9 : fu ≠ H fu 9 := ga_ne h0.2 h9.2 (by decide)
  unfold wF_placeIn_84
  refine ⟨ob, ob, ga_oa h8.2 (by omega) (by omega), ?_⟩
  intro H1 e1
  have u7 : H1 fu 7 = H fu 7 := by rw [e1, e3_up_ne (fun z => n8 z.1)]
  have u9 : H1 fu 9 = H fu 9 := by rw [e1, e3_up_ne (fun z => n8 z.1)]
  rw [u7, u9]
  refine ⟨ob, ob, ga_oa h9.2 (by omega) (by omega), ?_⟩
  intro H5 e5
  have v7 : H5 fu 7 = H fu 7 := by rw [e5, e3_up_ne (fun z => n9 z.1)]; exact u7
  rw [v7, e3_w32_id (x := H fu 7 + 1) (by omega) (by omega)]
  refine ⟨ob, ob, ?_⟩
  intro H9 e9
  have w7 : H9 fu 7 = H fu 7 + 1 := by rw [e9, e3_up_self]
  rw [w7, e3_w32_id (x := H fu 7 + 1 - 1) (by omega) (by omega), show H fu 7 + 1 - 1 = H fu 7 by omega]
  refine ⟨ob, hQ H9 (fun a k x1 x2 x3 => ?_) (fun k hk => ?_) w7 (fun k hk => ⟨?_, ?_⟩) ?_ ?_⟩
  · rw [e9, e3_up_ne (fun z => x1 z.1), e5, e3_up_ne (fun z => x3 z.1), e1, e3_up_ne (fun z => x2 z.1)]
  · rw [e9, e3_up_ne (fun z => hk z.2), e5, e3_up_ne (fun z => n9 z.1), e1, e3_up_ne (fun z => n8 z.1)]
  · rw [e9, e3_up_ne (fun z => n8 z.1.symm), e5, e3_up_ne (fun z => hne z.1), e1, e3_up_ne (fun z => hk z.2)]
  · rw [e9, e3_up_ne (fun z => n9 z.1.symm), e5, e3_up_ne (fun z => hk z.2), e1, e3_up_ne (fun z => hne z.1.symm)]
  · rw [e9, e3_up_ne (fun z => n8 z.1.symm), e5, e3_up_ne (fun z => hne z.1), e1, e3_up_self]
  · rw [e9, e3_up_ne (fun z => n9 z.1.symm), e5, e3_up_self]
/-- the table of places with one more -/
theorem pl_new {K : e3_H} {G2 : e3_G} {u nu a8 a9 : Int} {L L2 : Nat} (h : c_pl H G fu cx) (hL : g_at G (H fu 8) (0, L)) (hu : -1 ≤ u ∧ u < H fu 7) (hnu : 0 ≤ nu ∧ nu ≤ 3) (hnew : ∀ p : Nat, (p : Int) < H fu 7 → cx p ≠ 8 * cd cx u + nu + 1)
    (g0 : g_at G2 fu (108, 11)) (e8 : K fu 8 = a8) (e9 : K fu 9 = a9) (g8 : 139 ≤ a8 ∧ g_at G2 a8 (0, L2)) (g9 : 139 ≤ a9 ∧ g_at G2 a9 (0, L2)) (hne : a8 ≠ a9) (e7 : K fu 7 = H fu 7 + 1) (hL2 : 16 ≤ L2 ∧ (L2 = 16 ∨ (L2 : Int) ≤ 2 * (H fu 7 + 1)) ∧ L2 % 16 = 0) (h7 : H fu 7 < L2)
    (old : ∀ k : Int, 0 ≤ k → k < H fu 7 → K a8 k = H (H fu 8) k ∧ K a9 k = H (H fu 9) k) (n8 : K a8 (H fu 7) = u) (n9 : K a9 (H fu 7) = nu) :
    c_pl K G2 fu (fun p => if p = H fu 7 then 8 * cd cx u + nu + 1 else cx p) := by
  have pos := cx_pos h
  obtain ⟨q1, q2, L', q3, q4, q5, q6, q7, q8, q9⟩ := h
  have cdu : ∀ x : Int, x < H fu 7 → cd (fun p => if p = H fu 7 then 8 * cd cx u + nu + 1 else cx p) x = cd cx x := by
    intro x hx
    unfold cd
    by_cases hz : x < 0
    · rw [if_pos hz, if_pos hz]
    · rw [if_neg hz, if_neg hz]
      show (if x = H fu 7 then _ else cx x) = cx x
      rw [if_neg (by omega)]
  refine ⟨q1, g0, L2, by rw [e8]; exact g8, by rw [e9]; exact g9, by rw [e8, e9]; exact hne, by rw [e7]; exact hL2, by rw [e7]; omega, fun p hp => ?_, fun p q hp hq he => ?_⟩
  · rw [e7] at hp
    unfold c_p1
    rw [e8, e9]
    by_cases hz : (p : Int) = H fu 7
    · rw [hz, n8, n9]
      refine ⟨by omega, hnu, ?_⟩
      rw [cdu u hu.2]
      show (if H fu 7 = H fu 7 then _ else _) = _
      rw [if_pos rfl]
    · obtain ⟨o1, o2⟩ := old p (by omega) (by omega)
      rw [o1, o2]
      obtain ⟨c1, c2, c3⟩ := q8 p (by omega)
      refine ⟨c1, c2, ?_⟩
      rw [cdu _ (by omega)]
      show (if (p : Int) = H fu 7 then _ else cx p) = _
      rw [if_neg hz]
      exact c3
  · rw [e7] at hp hq
    simp only at he
    by_cases cp : (p : Int) = H fu 7
    · by_cases cq : (q : Int) = H fu 7
      · omega
      · rw [if_pos cp, if_neg cq] at he
        exact absurd he.symm (hnew q (by omega))
    · by_cases cq : (q : Int) = H fu 7
      · rw [if_neg cp, if_pos cq] at he
        exact absurd he (hnew p (by omega))
      · rw [if_neg cp, if_neg cq] at he
        exact q9 p q (by omega) (by omega) he
theorem cF_placeIn {Q : Int → e3_H → e3_G → Prop} {u nu : Int} (h : c_pl H G fu cx) (hc : H fu 7 ≤ 100000) (hu : -1 ≤ u ∧ u < H fu 7) (hnu : 0 ≤ nu ∧ nu ≤ 3)
    (hQ : ∀ x K G2 cx2, c_pl K G2 fu cx2 → 0 ≤ x → x < K fu 7 → cx2 x = 8 * cd cx u + nu + 1 → (∀ p : Int, p < H fu 7 → cx2 p = cx p) → H fu 7 ≤ K fu 7 → K fu 7 ≤ H fu 7 + 1 → pl_fr fu H G K G2 → pot K G2 fu ≤ pot H G fu + 16 → Q x K G2) : wF_placeIn Q fu u nu H G := by
  have pos := cx_pos h
  obtain ⟨q1, q2, L, q3, q4, q5, q6, q7, q8, q9⟩ := id h
  have ob := ga_ob (c := 8) q2
  have en : ((H fu 7).toNat : Int) = H fu 7 := Int.toNat_of_nonneg q7.1
  have n8 : fu ≠ H fu 8 := ga_ne q2 q3.2 (by decide)
  have n9 : fu ≠ H fu 9 := ga_ne q2 q4.2 (by decide)
  have key : ∀ (f j : Nat), j + f = (H fu 7).toNat → (∀ p : Nat, p < j → cx p ≠ 8 * cd cx u + nu + 1) → wF_placeIn_2 Q (f + 1) fu u nu j H G := by
    intro f
    induction f with
    | zero =>
      intro j hj hne
      have hne2 : ∀ p : Nat, (p : Int) < H fu 7 → cx p ≠ 8 * cd cx u + nu + 1 := fun p hp => hne p (by omega)
      refine ⟨ob, brF (by omega) ⟨ob, ob, ⟨by omega, by rw [ga_ln q3.2]; omega, L, q3.2.2⟩, ?_⟩⟩
      rw [ga_ln q3.2]
      refine ⟨fun hlt => ?_, fun hlt => ⟨ob, ob, ?_⟩⟩
      · refine cF_place84 (L := L) ⟨q1, q2⟩ q3 q4 q5 ⟨q7.1, hlt, hc⟩ (fun K f1 f2 f3 f4 f5 f6 => ?_)
        have e8 : K fu 8 = H fu 8 := f2 8 (by decide)
        have e9 : K fu 9 = H fu 9 := f2 9 (by decide)
        refine hQ (H fu 7) K G _ (pl_new h q3.2 hu hnu hne2 q2 e8 e9 q3 q4 q5 f3 ⟨q6.1, by omega⟩ hlt (fun k k0 k1 => f4 k (by omega)) f5 f6) q7.1 (by omega) ?_ (fun p hp => ?_) (by omega) (by omega) ⟨⟨[], by rw [List.append_nil]⟩, fun a k _ x1 x2 x3 => f1 a k x1 x2 x3, fun k k7 _ _ => f2 k k7, Or.inl e8, Or.inl e9⟩ ?_
        · show (if H fu 7 = H fu 7 then _ else _) = _
          rw [if_pos rfl]
        · show (if p = H fu 7 then _ else cx p) = _
          rw [if_neg (by omega)]
        · unfold pot
          rw [e8, f3]
          omega
      · rw [show e3_w32 (H fu 7 * 2) = 2 * (L : Int) by rw [e3_w32_id (by omega) (by omega)]; omega]
        refine cJ_copyOf q3.2 (by omega) (by omega) (fun K1 g1 g2 => ?_)
        have hG1 : fu < G.length := ga_lt q2
        have hG8 := ga_lt q3.2
        have hG9 := ga_lt q4.2
        have r2 : g_at (G ++ [(0, 2 * L)]) fu (108, 11) := ga_app q2
        refine ⟨ga_ob (c := 8) r2, ?_⟩
        intro H14 e14
        have u7 : H14 fu 7 = H fu 7 := by rw [e14, e3_up_ne (by omega), g1 fu 7 (by omega)]
        have u9 : H14 fu 9 = H fu 9 := by rw [e14, e3_up_ne (by omega), g1 fu 9 (by omega)]
        rw [u7, u9, show e3_w32 (H fu 7 * 2) = 2 * (L : Int) by rw [e3_w32_id (by omega) (by omega)]; omega]
        refine ⟨ga_ob (c := 8) r2, ga_ob (c := 8) r2, cJ_copyOf (G := G ++ [(0, 2 * L)]) (ga_app q4.2) (by omega) (by omega) (fun K2 k1 k2 => ?_)⟩
        have r3 : g_at (G ++ [(0, 2 * L)] ++ [(0, 2 * L)]) fu (108, 11) := ga_app r2
        have ln1 : (((G ++ [(0, 2 * L)]).length : Nat) : Int) = (G.length : Int) + 1 := by rw [List.length_append]; rfl
        have r8 : g_at (G ++ [(0, 2 * L)] ++ [(0, 2 * L)]) (G.length : Int) (0, 2 * L) := ga_app ga_new
        have r9 : g_at (G ++ [(0, 2 * L)] ++ [(0, 2 * L)]) ((G ++ [(0, 2 * L)]).length : Int) (0, 2 * L) := ga_new
        refine ⟨ga_ob (c := 8) r3, ?_⟩
        intro H21 e21
        rw [ln1] at k1 k2 e21 r9
        have z8 : H21 fu 8 = G.length := by rw [e21, e3_up_ne (by omega), k1 fu 8 (by omega), e14, e3_up_self]
        have z9 : H21 fu 9 = (G.length : Int) + 1 := by rw [e21, e3_up_self]
        have z7 : H21 fu 7 = H fu 7 := by rw [e21, e3_up_ne (by omega), k1 fu 7 (by omega)]; exact u7
        have zf : ∀ k : Int, k ≠ 8 → k ≠ 9 → H21 fu k = H fu k := by
          intro k k8 k9
          rw [e21, e3_up_ne (by omega), k1 fu k (by omega), e14, e3_up_ne (by omega), g1 fu k (by omega)]
        have za : ∀ a k : Int, a < G.length → a ≠ fu → H21 a k = H a k := by
          intro a k ha hf
          rw [e21, e3_up_ne (by omega), k1 a k (by omega), e14, e3_up_ne (by omega), g1 a k (by omega)]
        have zo8 : ∀ k : Int, 0 ≤ k → k < L → H21 (G.length : Int) k = H (H fu 8) k := by
          intro k k0 kl
          rw [e21, e3_up_ne (by omega), k1 _ k (by omega), e14, e3_up_ne (by omega)]
          exact g2 k k0 kl
        have zo9 : ∀ k : Int, 0 ≤ k → k < L → H21 ((G.length : Int) + 1) k = H (H fu 9) k := by
          intro k k0 kl
          rw [e21, e3_up_ne (by omega), k2 k k0 kl, e14, e3_up_ne (by omega), g1 _ k (by omega)]
        refine cF_place84 (L := 2 * L) ⟨q1, r3⟩ (by rw [z8]; exact ⟨by omega, r8⟩) (by rw [z9]; exact ⟨by omega, r9⟩) (by rw [z8, z9]; omega) (by rw [z7]; omega) (fun K f1 f2 f3 f4 f5 f6 => ?_)
        rw [z8, z9] at f1
        rw [z7] at f3 f4 f5 f6 ⊢
        rw [z8] at f4 f5
        rw [z9] at f4 f6
        have e8 : K fu 8 = G.length := by rw [f2 8 (by decide)]; exact z8
        have e9 : K fu 9 = (G.length : Int) + 1 := by rw [f2 9 (by decide)]; exact z9
        refine hQ (H fu 7) K _ _ (pl_new (L2 := 2 * L) h q3.2 hu hnu hne2 r3 e8 e9 ⟨by omega, r8⟩ ⟨by omega, r9⟩ (by omega) f3 ⟨by omega, by omega⟩ (by omega) (fun k k0 k1 => ?_) f5 f6) q7.1 (by omega) ?_ (fun p hp => ?_) (by omega) (by omega) ⟨⟨[(0, 2 * L), (0, 2 * L)], by rw [List.append_assoc]; rfl⟩, fun a k ha x1 x2 x3 => ?_, fun k k7 k8 k9 => ?_, Or.inr (by omega), Or.inr (by omega)⟩ ?_
        · obtain ⟨c1, c2⟩ := f4 k (by omega)
          rw [c1, c2]
          exact ⟨zo8 k k0 (by omega), zo9 k k0 (by omega)⟩
        · show (if H fu 7 = H fu 7 then _ else _) = _
          rw [if_pos rfl]
        · show (if p = H fu 7 then _ else cx p) = _
          rw [if_neg (by omega)]
        · rw [f1 a k x1 (by omega) (by omega)]
          exact za a k ha x1
        · rw [f2 k k7]
          exact zf k k8 k9
        · unfold pot
          rw [e8, f3, ga_ln r8, ga_ln q3.2, gz_one, gz_one]
          simp only
          omega
    | succ f ih =>
      intro j hj hne
      obtain ⟨c1, c2, c3⟩ := q8 j (by omega)
      have go : cx j ≠ 8 * cd cx u + nu + 1 → wF_placeIn_32 Q (fun l0 l1 l2 l3 H G => wF_placeIn_2 Q (f + 1) l0 l1 l2 l3 H G) fu u nu j H G := by
        intro hz
        unfold wF_placeIn_32
        rw [w_p1 (by omega)]
        exact ih (j + 1) (by omega) (fun p hp => by
          by_cases hpj : p = j
          · subst hpj; exact hz
          · exact hne p (by omega))
      have cdn : ∀ x : Int, -1 ≤ x → x < H fu 7 → (cd cx x = 0 ∧ x = -1) ∨ (1 ≤ cd cx x ∧ 0 ≤ x ∧ cd cx x = cx x) := by
        intro x h1 h2
        unfold cd
        by_cases hz : x < 0
        · rw [if_pos hz]; omega
        · rw [if_neg hz]
          have := pos x.toNat (by omega)
          rw [Int.toNat_of_nonneg (by omega)] at this
          omega
      refine ⟨ob, brT (by omega) ⟨ob, ga_oa q3.2 (by omega) (by omega), ?_⟩⟩
      refine ⟨fun hu2 => ⟨ob, ga_oa q4.2 (by omega) (by omega), fun hn2 => ?_, fun hn2 => go ?_⟩, fun hu2 => go ?_⟩
      · refine hQ j H G cx h (by omega) (by omega) (by rw [c3, hu2, hn2]) (fun _ _ => rfl) (by omega) (by omega) ⟨⟨[], by rw [List.append_nil]⟩, fun _ _ _ _ _ _ => rfl, fun _ _ _ _ => rfl, Or.inl rfl, Or.inl rfl⟩ (by omega)
      · rw [c3, hu2]; omega
      · rw [c3]
        intro hz
        have e1 : cd cx (H (H fu 8) j) = cd cx u := by omega
        have a1 := cdn (H (H fu 8) j) (by omega) (by omega)
        have a2 := cdn u hu.1 hu.2
        rcases a1 with ⟨b1, b2⟩ | ⟨b1, b2, b3⟩
        · rcases a2 with ⟨d1, d2⟩ | ⟨d1, d2, d3⟩
          · exact hu2 (by omega)
          · omega
        · rcases a2 with ⟨d1, d2⟩ | ⟨d1, d2, d3⟩
          · omega
          · have := q9 (H (H fu 8) j).toNat u.toNat (by omega) (by omega) (by rw [Int.toNat_of_nonneg b2, Int.toNat_of_nonneg d2, ← b3, ← d3]; exact e1)
            exact hu2 (by omega)
  exact ⟨(H fu 7).toNat + 1, key (H fu 7).toNat 0 (by omega) (fun p hp => by omega)⟩
end CP
