section LAY2
variable {σ g : e3_H} {r R ru lo hi : Int} {pn : Int → Int} {G : e3_G} {cnt : Nat}
/-- the alternative that a way takes is found -/
theorem cO_alt {n : Nat} {c d : Int} {B : List Int} {H : e3_H} {Q : e3_H → e3_G → Prop} (hX : LX σ r g pn G cnt R ru lo hi H) (hd : 0 ≤ d ∧ d ≤ 6) : ∀ (A : List Int) (a w : Int), ach σ a (A ++ c :: B) → (∀ y, y ∈ A ++ c :: B → lo ≤ y ∧ y < hi ∧ σ 55 y < 1000) → ws σ A ≤ w → w - ws σ A < σ 55 c → 0 ≤ w → w ≤ 2147483647 → wO_lay n R (g 0 c) (w - ws σ A) (d + 1) H G Q → wO_layAlternative_9 (wO_lay n) Q (A.length + 1) R d w (c_lk g a) H G := by
  obtain ⟨hO, _, _, _, l0, hP⟩ := hX
  have obR := ga_ob (c := 11) hO.2.1
  intro A
  induction A with
  | nil =>
    intro a w ha hm h1 h2 w0 w1 hl
    have hz : a = c := ha.1
    subst hz
    obtain ⟨c1, c2, c3⟩ := hm a (List.mem_cons_self ..)
    obtain ⟨pc, pr, pp⟩ := hP a c1 c2
    have ob := ga_ob (c := 10) pc.1.2.1
    have h139 : 139 ≤ g 0 a := pc.1.1
    have h9 := wy_lt pc.2.2.2.2 c3
    have h2 : w - 0 < σ 55 a := h2
    have hl : wO_lay n R (g 0 a) (w - 0) (d + 1) H G Q := hl
    rw [Int.sub_zero] at hl
    rw [c_lk_pos (g := g) (by omega)]
    refine brF (by omega) ⟨ob, brT (by rw [h9.1]; omega) ⟨obR, ?_⟩⟩
    rw [e3_w32_id (x := d + 1) (by omega) (by omega)]
    exact hl
  | cons b A ih =>
    intro a w ha hm h1 h2 w0 w1 hl
    have hz : a = b := ha.1
    subst hz
    obtain ⟨c1, c2, c3⟩ := hm a (List.mem_cons_self ..)
    obtain ⟨pc, pr, pp⟩ := hP a c1 c2
    have ob := ga_ob (c := 10) pc.1.2.1
    have h139 : 139 ≤ g 0 a := pc.1.1
    have h9 := wy_lt pc.2.2.2.2 c3
    have h8 : H (g 0 a) 8 = c_lk g (σ 52 a) := pc.2.2.2.1.1
    have h1 : σ 55 a + ws σ A ≤ w := h1
    have h2 : w - (σ 55 a + ws σ A) < σ 55 c := h2
    have hl : wO_lay n R (g 0 c) (w - (σ 55 a + ws σ A)) (d + 1) H G Q := hl
    have hws : 0 ≤ ws σ A := ws_0 A (fun y hy => by
      obtain ⟨y1, y2, y3⟩ := hm y (List.mem_cons_of_mem _ (List.mem_append_left _ hy))
      exact (wy_lt (hP y y1 y2).1.2.2.2.2 y3).2)
    rw [c_lk_pos (g := g) (by omega)]
    refine brF (by omega) ⟨ob, brF (by rw [h9.1]; omega) ⟨ob, ob, ?_⟩⟩
    rw [h9.1, e3_w32_id (x := w - σ 55 a) (by omega) (by omega), h8]
    refine ih _ _ ha.2 (fun y hy => hm y (List.mem_cons_of_mem _ hy)) (by omega) (by omega) (by omega) (by omega) ?_
    rw [show w - σ 55 a - ws σ A = w - (σ 55 a + ws σ A) by omega]
    exact hl
/-- a way of a pattern is laid by the class as lyV says -/
theorem cO_lay : ∀ (k n : Nat) (d q w x : Int) (V : List (Int × Int)) (H : e3_H) (Q : e3_H → e3_G → Prop), k ≤ n → 0 ≤ d → d + k ≤ 7 → lyV σ k q w x V → wt σ k hi q → lo ≤ q → q < hi → σ 55 q < 1000 → LX σ r g pn G cnt R ru lo hi H → 0 ≤ H R 1 → H R 1 + tsn σ V ≤ cnt → 0 ≤ w → w ≤ 2147483647 → Q (rw_st R pn σ g V H) G → wO_lay n R (g 0 q) w d H G Q := by
  intro k
  induction k with
  | zero => intro n d q w x V H Q _ _ _ h; exact h.elim
  | succ k ih =>
    intro n d q w x V H Q hn d0 d1 hv ht q1 q2 hlt hX hc0 hc1 w0 w1 hQ
    cases n with
    | zero => exact absurd hn (by omega)
    | succ n =>
      obtain ⟨L, V1, ⟨a1, a2⟩, e, hv⟩ := hv
      obtain ⟨L2, b1, b2, b3, b4, b5, b6⟩ := ht
      have hX2 := hX
      obtain ⟨hO, hU, hru, hcn, l0, hP⟩ := hX2
      obtain ⟨pc, pr, pp⟩ := hP q q1 q2
      obtain ⟨⟨p1, p2, p3, p4, p5, p6, p7, p8, p9, p10⟩, ⟨q5, q6⟩, ⟨r1, r2⟩, _, r5⟩ := pc
      rw [pp] at p5
      have e1 : ∀ y, y ∈ L2 → y ≠ -4 := fun y hy => by have := (b2 y hy).1; omega
      have hLL : L = L2 := ach_inj L L2 _ a2 e1 a1 b1
      subst hLL
      have eL : ∀ y, y ∈ L → lo ≤ y ∧ y < hi ∧ wt σ k hi y := fun y hy => by
        obtain ⟨y1, y2, y3⟩ := b2 y hy
        exact ⟨by omega, y2, y3⟩
      have hpos : ∀ y, y ∈ L → 1 ≤ σ 55 y := fun y hy => by
        obtain ⟨⟨h1, h2⟩, h3⟩ := (hP y (eL y hy).1 (eL y hy).2.1).1.2.2.2.2
        split at h3 <;> omega
      have c51 : rw_1 R pn σ g q H (g 0 q) 7 = c_lk g (σ 51 q) := by rw [rw_1_at pr]; exact r1
      subst e
      have hc1 : H R 1 + ((if σ 46 q = 0 ∨ σ 46 q = 6 then 0 else 1) + tsn σ V1) ≤ cnt := hc1
      have t1 := tsn_0 (σ := σ) V1
      have hn1 : rw_1 R pn σ g q H R 1 = H R 1 + (if σ 46 q = 0 ∨ σ 46 q = 6 then 0 else 1) := rw_1_c
      have hQ : Q (rw_st R pn σ g V1 (rw_1 R pn σ g q H)) G := hQ
      have hcc : 0 ≤ rw_1 R pn σ g q H R 1 ∧ rw_1 R pn σ g q H R 1 + tsn σ V1 ≤ cnt := by
        rw [hn1]
        split at hc1
        · rename_i hz; rw [if_pos hz]; omega
        · rename_i hz; rw [if_neg hz]; omega
      refine cO_pre (w := w) (n := n) ⟨d0, by omega⟩ hO hU hru hcn p2 pr pp p5 p9 q5 p10 q6 p3 (fun hz => ?_) (fun h6 => ?_) (fun h0 => ?_) (fun h0 h6 => ?_)
      · rw [if_neg hz] at hc1
        omega
      · rcases hv with ⟨_, A, c, B, eA, s1, s2, v⟩ | ⟨z, _⟩
        · have hm : c ∈ L := by rw [eA]; exact List.mem_append_right _ (List.mem_cons_self ..)
          have ews : σ 55 q = ws σ L := by
            rw [h6] at b3
            rw [b3]
            exact wfL_6 (b5 h6) hpos (by rw [← b3]; exact hlt)
          have hle : ∀ y, y ∈ L → σ 55 y < 1000 := fun y hy => by have := le_ws L hpos y hy; omega
          refine ⟨ga_ob (c := 10) p2, A.length + 1, ?_⟩
          rw [c51]
          have hws : 0 ≤ ws σ A := ws_0 A (fun y hy => hpos y (by rw [eA]; exact List.mem_append_left _ hy))
          have eL2 : ∀ y, y ∈ A ++ c :: B → lo ≤ y ∧ y < hi ∧ σ 55 y < 1000 := fun y hy => by
            rw [← eA] at hy
            exact ⟨(eL y hy).1, (eL y hy).2.1, hle y hy⟩
          refine cO_alt (B := B) (c := c) (LX_1 hX) ⟨d0, by omega⟩ A _ w (by rw [← eA]; exact a1) eL2 s1 s2 w0 w1 ?_
          exact ih n (d + 1) c (w - ws σ A) x V1 _ _ (by omega) (by omega) (by omega) v (eL c hm).2.2 (eL c hm).1 (eL c hm).2.1 (hle c hm) (LX_1 hX) hcc.1 hcc.2 (by omega) (by omega) hQ
        · exact absurd h6 z
      · rcases hv with ⟨z, _⟩ | ⟨_, z, _, _, v⟩
        · exact absurd (h0.symm.trans z) (by decide)
        · have hn : L = [] := by
            cases L with
            | nil => rfl
            | cons c l => exact absurd (h0.symm.trans (z (List.cons_ne_nil _ _))) (by decide)
          subst hn
          have v : V1 = [] := v
          rw [v] at hQ
          exact hQ
      · rcases hv with ⟨z, _⟩ | ⟨_, z, _, _, v⟩
        · exact absurd z h6
        · have ewp : σ 55 q = wp σ L := by
            by_cases hn : L = []
            · rw [b3, hn]; rfl
            · rw [z hn] at b3
              rw [b3]
              exact wfL_5 hpos (by rw [← b3]; exact hlt)
          refine ⟨L.length + 1, ?_⟩
          rw [r1]
          exact cO_chain (fun q w x V H Q v1 v2 v3 v4 v5 v6 v7 v8 v9 v10 v11 => ih n (d + 1) q w x V H Q (by omega) (by omega) (by omega) v1 v2 v3 v4 v5 v6 v7 v8 v9 v10 v11) L w (8 * x + 1) V1 _ _ _ v a1 eL w0 w1 (by omega) (LX_1 hX) hcc.1 hcc.2 hQ
end LAY2
