/-- how deep a place is, by its code -/
def odp : Nat → Int → Int
  | 0, _ => 0
  | k + 1, x => if 0 < x then odp k (x / 8) + 1 else 0
theorem odp_0 (k : Nat) {x : Int} (h : ¬ 0 < x) : odp k x = 0 := by
  cases k with
  | zero => rfl
  | succ k => show (if 0 < x then _ else _) = _; rw [if_neg h]
theorem odp_s (k : Nat) {x : Int} (h : 0 < x) : odp (k + 1) x = odp k (x / 8) + 1 := by
  show (if 0 < x then _ else _) = _
  rw [if_pos h]
/-- what node answers -/
def nvl (f : Int) (d : a_ND) (l3 : Int) (H : e3_H) : Int := if l3 = 0 then d.1 else if l3 = 1 then (if d.1 = 1 ∨ d.1 = 2 then rnm f d.2.1 H else -4) else if l3 = 2 then d.2.2.2.1 else if l3 = 3 then (if d.1 < 3 then -4 else odp 11 (d.2.2.1 / 8)) else (if d.1 < 3 then -4 else d.2.2.1 % 8 - 1)
section NDV
variable {Q : Int → e3_H → e3_G → Prop} {H : e3_H} {G : e3_G} {fu : Int} {cx : Int → Int}
theorem vF_placeUp (h : c_pl H G fu cx) {p : Int} (hp : 0 ≤ p ∧ p < H fu 7) (hQ : Q (H (H fu 8) p) H G) : wF_placeUp Q fu p H G := by
  obtain ⟨h0, h1, L, a1, a2, _, _, a5, _⟩ := h
  have o := ga_ob (c := 8) h1
  exact brF (by omega) ⟨o, brT hp.2 ⟨o, ga_oa a1.2 (by omega) (by omega), hQ⟩⟩
theorem cx_up (h : c_pl H G fu cx) {p : Int} (hp : 0 ≤ p ∧ p < H fu 7) : (H (H fu 8) p = -1 ∨ (0 ≤ H (H fu 8) p ∧ H (H fu 8) p < p)) ∧ (0 ≤ H (H fu 9) p ∧ H (H fu 9) p ≤ 3) ∧ cx p = 8 * cd cx (H (H fu 8) p) + H (H fu 9) p + 1 ∧ 0 ≤ cd cx (H (H fu 8) p) ∧ (0 ≤ H (H fu 8) p → 1 ≤ cd cx (H (H fu 8) p)) := by
  have hpos := cx_pos h
  obtain ⟨h0, h1, L, a1, a2, _, _, a5, a6, _⟩ := h
  have c := a6 p.toNat (by omega)
  unfold c_p1 at c
  rw [show ((p.toNat : Nat) : Int) = p by omega] at c
  refine ⟨c.1, c.2.1, c.2.2, ?_⟩
  unfold cd
  by_cases z : H (H fu 8) p < 0
  · rw [if_pos z]
    exact ⟨by omega, fun y => by omega⟩
  · rw [if_neg z]
    have := hpos (H (H fu 8) p).toNat (by have := c.1; omega)
    rw [show (((H (H fu 8) p).toNat : Nat) : Int) = H (H fu 8) p by omega] at this
    exact ⟨by omega, fun _ => this⟩
theorem vF_placeDepth (h : c_pl H G fu cx) {p : Int} (hp : 0 ≤ p ∧ p < H fu 7) (hx : cx p < 2147483647) (hQ : Q (odp 11 (cx p / 8)) H G) : wF_placeDepth Q fu p H G := by
  have key : ∀ (k : Nat) (l2 l3 : Int), (l3 = -1 ∨ (0 ≤ l3 ∧ l3 < H fu 7)) → 0 ≤ l2 → l2 + k ≤ 100 → l2 + l3 + 1 ≤ H fu 7 → cd cx l3 < 8 ^ k → Q (l2 + odp k (cd cx l3)) H G → wF_placeDepth_8 Q (k + 1) fu l2 l3 H G := by
    intro k
    induction k with
    | zero =>
      intro l2 l3 g1 g2 g3 g4 g5 g6
      rw [Int.pow_zero] at g5
      have z : l3 < 0 := by
        rcases g1 with y | y
        · omega
        · have := cx_pos h l3.toNat (by omega)
          rw [show ((l3.toNat : Nat) : Int) = l3 by omega] at this
          unfold cd at g5
          rw [if_neg (by omega)] at g5
          omega
      refine brT z ?_
      have g6 : Q (l2 + 0) H G := g6
      rw [Int.add_zero] at g6
      exact g6
    | succ k ih =>
      intro l2 l3 g1 g2 g3 g4 g5 g6
      by_cases z : l3 < 0
      · refine brT z ?_
        have e : cd cx l3 = 0 := by unfold cd; rw [if_pos z]
        rw [e, odp_0 _ (by decide), Int.add_zero] at g6
        exact g6
      · have hp3 : 0 ≤ l3 ∧ l3 < H fu 7 := by omega
        obtain ⟨c1, c2, c3, c4, c5⟩ := cx_up h hp3
        have e : cd cx l3 = cx l3 := by unfold cd; rw [if_neg z]
        have o := ga_ob (c := 8) h.2.1
        rw [e] at g5 g6
        rw [Int.pow_succ] at g5
        have e8 : cx l3 / 8 = cd cx (H (H fu 8) l3) := by omega
        rw [odp_s k (by omega), e8] at g6
        refine brF z ⟨o, brT (by omega) ⟨o, vF_placeUp h hp3 ?_⟩⟩
        rw [e3_w32_id (x := l2 + 1) (by omega) (by omega)]
        refine ih (l2 + 1) _ (by omega) (by omega) (by omega) (by omega) (by omega) ?_
        rw [show l2 + 1 + odp k (cd cx (H (H fu 8) l3)) = l2 + (odp k (cd cx (H (H fu 8) l3)) + 1) by omega]
        exact g6
  obtain ⟨c1, c2, c3, c4, c5⟩ := cx_up h hp
  refine ⟨ga_ob (c := 8) h.2.1, vF_placeUp h hp ⟨12, key 11 0 _ (by omega) (by decide) (by decide) (by omega) ?_ ?_⟩⟩
  · rw [show (8 : Int) ^ 11 = 8589934592 by decide]
    omega
  · rw [show cx p / 8 = cd cx (H (H fu 8) p) by omega] at hQ
    rw [Int.zero_add]
    exact hQ
theorem vF_placeNumber (h : c_pl H G fu cx) {p : Int} (hp : 0 ≤ p ∧ p < H fu 7) (hQ : Q (cx p % 8 - 1) H G) : wF_placeNumber Q fu p H G := by
  obtain ⟨c1, c2, c3, c4, c5⟩ := cx_up h hp
  obtain ⟨h0, h1, L, a1, a2, _, _, a5, _⟩ := h
  have o := ga_ob (c := 8) h1
  refine brF (by omega) ⟨o, brT hp.2 ⟨o, ga_oa a2.2 (by omega) (by omega), ?_⟩⟩
  rw [show cx p % 8 - 1 = H (H fu 9) p by omega] at hQ
  exact hQ
theorem vP_node {l1 l2 l3 : Int} {d : a_ND} {cnt : Nat} (hS : zSX H G) (hl : 0 ≤ l1 ∧ l1 < H 14 3) (hpl : c_pl H G (H 15 l1) cx) (h7 : H (H 15 l1) 7 = (cnt : Int)) (h2 : 0 ≤ l2 ∧ l2 < H (H (H 15 l1) 10) 0) (h3 : 0 ≤ l3 ∧ l3 ≤ 4) (hd : TC1 (H (H 15 l1) 10) cx cnt l2 d H) (hr1 : d.1 = 1 ∨ d.1 = 2 → 0 ≤ d.2.1 ∧ d.2.1 < H (H 15 l1) 5) (hr0 : ¬ (d.1 = 1 ∨ d.1 = 2) → d.2.1 = -1) (hx : 3 ≤ d.1 → 1 ≤ d.2.2.1 ∧ d.2.2.1 < 2147483647) (hQ : Q (nvl l1 d l3 H) H G) : wP_node Q l1 l2 l3 H G := by
  have q : ∀ x, nvl l1 d l3 H = x → Q x H G := fun x e => e ▸ hQ
  have hfu := hS.2 l1 hl.1 hl.2
  have h12 := hS.1
  have o := ga_ob (c := 8) hfu.1.2
  obtain ⟨⟨_, q0, ⟨p1, q1⟩, ⟨p2, q2⟩, ⟨p3, q3⟩, ⟨p4, q4⟩, ⟨p5, q5⟩, ⟨p6, q6⟩⟩, t2, t3⟩ := id hfu.2.2.2.2.2
  have o5 := ga_ob (c := 5) q0
  obtain ⟨d1, d2, d3, d4, d5, d6⟩ := hd
  obtain ⟨g3, g4, g5, g6⟩ := hfu.2.2.2.1
  have i1 : e3_oa G 0 (H (H (H 15 l1) 10) 4) l2 := by rw [p1]; exact ga_oa q1 (by omega) (by omega)
  have i2 : e3_oa G 0 (H (H (H 15 l1) 10) 5) l2 := by rw [p2]; exact ga_oa q2 (by omega) (by omega)
  have i3 : e3_oa G 0 (H (H (H 15 l1) 10) 6) l2 := by rw [p3]; exact ga_oa q3 (by omega) (by omega)
  have i4 : e3_oa G 0 (H (H (H 15 l1) 10) 7) l2 := by rw [p4]; exact ga_oa q4 (by omega) (by omega)
  have hpx : 3 ≤ d.1 → (0 ≤ H (H (H 15 l1) 10 + 3) l2 ∧ H (H (H 15 l1) 10 + 3) l2 < H (H 15 l1) 7) ∧ cx (H (H (H 15 l1) 10 + 3) l2) = d.2.2.1 := fun z => by
    have := hx z
    rcases d3 with y | y
    · omega
    · exact ⟨by omega, y.2⟩
  have n18 : ∀ s0 : Int, (s0 = 0 → d.1 < 3) → (s0 ≠ 0 → 3 ≤ d.1) → wF_tellNode_18 (fun x10 H8 G9 => Q x10 H8 G9) (H 15 l1) l2 l3 s0 H G := fun s0 s1 s2 => by
    refine ⟨fun z => ⟨o, o5, i1, q _ ?_⟩, fun z => ⟨o, o5, i2, o, ?_⟩, fun z => ⟨o, o5, i4, q _ ?_⟩, fun z => ⟨fun s => q _ ?_, fun s => ⟨o, o5, i3, o, ?_⟩⟩, fun z => ⟨fun s => q _ ?_, fun s => ⟨o, o5, i3, o, ?_⟩⟩⟩
    · rw [p1, d1]; unfold nvl; rw [if_pos z]
    · rw [p2, d2]
      by_cases w : d.1 = 1 ∨ d.1 = 2
      · have r := hr1 w
        have zr := g6 d.2.1 r.1 r.2
        refine brF (by omega) ⟨o, brT r.2 ⟨o, ga_oa g5 (by omega) (by omega), brF (by have := zr.1.1; omega) ⟨ga_ob (c := 11) zr.1.2, ga_ob (c := 9) zr.2.1.1.2, q _ ?_⟩⟩⟩
        unfold nvl rnm
        rw [if_neg (by omega), if_pos z, if_pos w]
      · have r := hr0 w
        refine brT (by omega) (brT (by decide) (q _ ?_))
        unfold nvl
        rw [if_neg (by omega), if_pos z, if_neg w]
    · rw [p4, d4]; unfold nvl; rw [if_neg (by omega), if_neg (by omega), if_pos z]
    · unfold nvl; rw [if_neg (by omega), if_neg (by omega), if_neg (by omega), if_pos z, if_pos (s1 s)]
    · obtain ⟨y1, y2⟩ := hpx (s2 s)
      have := hx (s2 s)
      rw [p3]
      refine vF_placeDepth hpl y1 (by omega) (q _ ?_)
      unfold nvl
      rw [if_neg (by omega), if_neg (by omega), if_neg (by omega), if_pos z, if_neg (by have := s2 s; omega), y2]
    · unfold nvl; rw [if_neg (by omega), if_neg (by omega), if_neg (by omega), if_neg (by omega), if_pos (s1 s)]
    · obtain ⟨y1, y2⟩ := hpx (s2 s)
      rw [p3]
      refine vF_placeNumber hpl y1 (q _ ?_)
      unfold nvl
      rw [if_neg (by omega), if_neg (by omega), if_neg (by omega), if_neg (by omega), if_neg (by have := s2 s; omega), y2]
  refine brF (by omega) (brT hl.2 ⟨by omega, brF (by have := hfu.1.1; omega) ⟨o, o5, brF (by omega) ⟨o5, brT h2.2 ⟨Or.inr rfl, brF (by decide) (brF (by omega) (brF (by omega) ⟨o, o, o5, i1, ?_⟩))⟩⟩⟩⟩)
  rw [p1, d1]
  exact ⟨fun z => n18 0 (fun _ => z) (fun y => absurd rfl y), fun z => n18 1 (fun y => absurd y (by decide)) (fun _ => by omega)⟩
theorem nM_n138 {l4 : Int} (h4 : 0 ≤ l4 ∧ l4 < 3900) : ∀ (k : Nat) (l5 l6 : Int), l6 < 8 ^ k → l6 ≤ 2147483647 → 0 ≤ l5 → l5 + k ≤ 1000 → (H 105 l4 = -4 → Q (-4) H G) → (H 105 l4 ≠ -4 → Q (l5 + odp k l6) H G) → wM_node_138 Q (k + 1) l4 l5 l6 H G := by
  intro k
  induction k with
  | zero =>
    intro l5 l6 h6 _ _ _ q1 q2
    rw [Int.pow_zero] at h6
    refine brF (by omega) ⟨h4, fun z => q1 z, fun z => ?_⟩
    have := q2 z
    rw [show l5 + odp 0 l6 = l5 from Int.add_zero l5] at this
    exact this
  | succ k ih =>
    intro l5 l6 h6 h7 h8 h9 q1 q2
    by_cases c : 0 < l6
    · refine brT c ?_
      rw [shr_3 (by omega) (by omega), e3_w32_id (by omega) (by omega)]
      rw [Int.pow_succ] at h6
      refine ih _ _ (by omega) (by omega) (by omega) (by omega) q1 (fun z => ?_)
      have := q2 z
      rw [odp_s k c] at this
      rw [show l5 + 1 + odp k (l6 / 8) = l5 + (odp k (l6 / 8) + 1) by omega]
      exact this
    · refine brF c ⟨h4, fun z => q1 z, fun z => ?_⟩
      have := q2 z
      rw [odp_0 _ c, Int.add_zero] at this
      exact this
theorem nM_node {l1 l2 l3 : Int} {d : a_ND} {nf n : Nat} (h12 : nf ≤ 12) (h41 : H 40 41 = (nf : Int)) (hl : 0 ≤ l1 ∧ l1 < (nf : Int)) (h99 : H 99 l1 = (n : Int)) (hn : n ≤ 120) (h2 : 0 ≤ l2 ∧ l2 < (n : Int)) (h3 : 0 ≤ l3 ∧ l3 ≤ 4) (c1 : H 102 (300 * l1 + l2) = d.1) (c2 : H 106 (300 * l1 + l2) = d.2.2.2.1) (c3 : d.1 = 1 ∨ d.1 = 2 → H 103 (300 * l1 + l2) = 16 * l1 + rnm l1 d.2.1 H ∧ 0 ≤ rnm l1 d.2.1 H ∧ rnm l1 d.2.1 H < 16) (c4 : ¬ (d.1 = 1 ∨ d.1 = 2) → H 103 (300 * l1 + l2) = -4) (c5 : 3 ≤ d.1 → H 105 (300 * l1 + l2) = d.2.2.1) (c6 : d.1 < 3 → H 105 (300 * l1 + l2) = -4) (hx : 3 ≤ d.1 → 1 ≤ d.2.2.1 ∧ d.2.2.1 < 2147483647) (hQ : Q (nvl l1 d l3 H) H G) : wM_node Q l1 l2 l3 H G := by
  have q : ∀ x, nvl l1 d l3 H = x → Q x H G := fun x e => e ▸ hQ
  refine cM_in (fun _ _ => ⟨Or.inr rfl, brF (by decide) ⟨by omega, ?_⟩⟩) (fun w => absurd ⟨hl.1, by rw [h41, e3_w32_id (by omega) (by omega)]; omega⟩ w)
  refine cM_in (fun _ _ => brF (by decide) (cM_in (fun _ _ => brF (by decide) ?_) (fun w => absurd h3 w))) (fun w => absurd ⟨h2.1, by rw [h99, e3_w32_id (by omega) (by omega)]; omega⟩ w)
  rw [e3_w32_id (x := 300 * l1) (by omega) (by omega), e3_w32_id (x := 300 * l1 + l2) (by omega) (by omega)]
  have ix : (0 : Int) ≤ 300 * l1 + l2 ∧ 300 * l1 + l2 < 3900 := by omega
  have e8 : (8 : Int) ^ 11 = 8589934592 := by decide
  refine ⟨fun z => ⟨ix, q _ ?_⟩, fun z => ⟨ix, fun e => q _ ?_, fun e => ⟨ix, by decide, q _ ?_⟩⟩, fun z => ⟨ix, q _ ?_⟩, fun z => ⟨ix, 12, ?_⟩, fun z => ⟨ix, fun e => q _ ?_, fun e => ⟨ix, q _ ?_⟩⟩⟩
  · unfold nvl; rw [if_pos z, c1]
  · unfold nvl
    by_cases w : d.1 = 1 ∨ d.1 = 2
    · have := c3 w
      omega
    · rw [if_neg (by omega), if_pos z, if_neg w]
  · unfold nvl
    by_cases w : d.1 = 1 ∨ d.1 = 2
    · obtain ⟨y1, y2, y3⟩ := c3 w
      rw [if_neg (by omega), if_pos z, if_pos w, y1, e3_rem_id (by omega) (by decide)]
      omega
    · exact absurd (c4 w) e
  · unfold nvl; rw [if_neg (by omega), if_neg (by omega), if_pos z, c2]
  · by_cases w : 3 ≤ d.1
    · have y := hx w
      rw [c5 w, shr_3 (by omega) (by omega)]
      refine nM_n138 ix 11 0 _ (by omega) (by omega) (by decide) (by decide) (fun e => ?_) (fun e => q _ ?_)
      · rw [c5 w] at e
        omega
      · unfold nvl
        rw [if_neg (by omega), if_neg (by omega), if_neg (by omega), if_pos z, if_neg (by omega), Int.zero_add]
    · rw [c6 (by omega), show e3_shr (-4) 3 = -1 by decide]
      refine nM_n138 ix 11 0 _ (by omega) (by decide) (by decide) (by decide) (fun e => q _ ?_) (fun e => absurd (c6 (by omega)) e)
      unfold nvl
      rw [if_neg (by omega), if_neg (by omega), if_neg (by omega), if_pos z, if_pos (by omega)]
  · unfold nvl
    by_cases w : 3 ≤ d.1
    · rw [c5 w] at e
      have := hx w
      omega
    · rw [if_neg (by omega), if_neg (by omega), if_neg (by omega), if_neg (by omega), if_pos (by omega)]
  · unfold nvl
    by_cases w : 3 ≤ d.1
    · have := hx w
      rw [if_neg (by omega), if_neg (by omega), if_neg (by omega), if_neg (by omega), if_neg (by omega), c5 w, and_7 (by omega) (by omega), e3_w32_id (by omega) (by omega)]
    · exact absurd (c6 (by omega)) e
end NDV
/-- where branches of a node begin -/
def nxt (N : List a_ND) (p : Nat) : Nat → Nat
  | 0 => p
  | i + 1 => nxt N p i + szn N (nxt N p i)
theorem nxt_s (N : List a_ND) : ∀ (i p : Nat), nxt N (p + szn N p) i = nxt N p (i + 1) := by
  intro i
  induction i with
  | zero => intro p; rfl
  | succ i ih =>
    intro p
    show nxt N (p + szn N p) i + szn N (nxt N (p + szn N p) i) = nxt N p (i + 1) + szn N (nxt N p (i + 1))
    rw [ih]
theorem chl_at (N : List a_ND) : ∀ (c p i : Nat), i < c → (chl N c p)[i]? = some (nxt N p i) := by
  intro c
  induction c with
  | zero => intro p i h; omega
  | succ c ih =>
    intro p i h
    cases i with
    | zero => rfl
    | succ i =>
      show (chl N c (p + szn N p))[i]? = _
      rw [ih _ i (by omega), nxt_s]
section BRV
variable {Q : Int → e3_H → e3_G → Prop} {H : e3_H} {G : e3_G} {cx : Int → Int}
theorem vP_branch {l1 l2 l3 : Int} {d : a_ND} {cnt : Nat} {N : List a_ND} (hS : zSX H G) (hl : 0 ≤ l1 ∧ l1 < H 14 3) (h0 : H (H (H 15 l1) 10) 0 = (N.length : Int)) (hTC : TC (H (H 15 l1) 10) cx cnt 0 N H) (hsz : ∀ (j : Nat) (d : a_ND), N[j]? = some d → 1 ≤ d.2.2.2.2.2) (h2 : 0 ≤ l2) (hd : N[l2.toNat]? = some d) (hch : ∀ x : Nat, x ∈ chl N d.2.2.2.1.toNat (l2.toNat + 1) → x < N.length) (hno : ¬ (0 ≤ l3 ∧ l3 < d.2.2.2.1) → Q (-1) H G) (hQ : 0 ≤ l3 → l3 < d.2.2.2.1 → Q (nxt N (l2.toNat + 1) l3.toNat : Nat) H G) : wP_branch Q l1 l2 l3 H G := by
  have hfu := hS.2 l1 hl.1 hl.2
  have h12 := hS.1
  have o := ga_ob (c := 8) hfu.1.2
  obtain ⟨⟨_, q0, ⟨p1, q1⟩, ⟨p2, q2⟩, ⟨p3, q3⟩, ⟨p4, q4⟩, ⟨p5, q5⟩, ⟨p6, q6⟩⟩, t2, t3⟩ := id hfu.2.2.2.2.2
  have o5 := ga_ob (c := 5) q0
  have hl2 := (List.getElem?_eq_some_iff.mp hd).1
  have el2 : ((l2.toNat : Nat) : Int) = l2 := by omega
  have e0 : (0 : Int) + (l2.toNat : Nat) = l2 := by omega
  have hd0 := hTC _ _ hd
  rw [e0] at hd0
  have d4 := hd0.2.2.2.1
  have hcb : d.2.2.2.1 ≤ 1000 := by
    have := t3 l2 h2 (by omega)
    rw [d4] at this
    exact this
  refine brF (by omega) (brT hl.2 ⟨by omega, brF (by have := hfu.1.1; omega) ⟨o, o5, brF (by omega) ⟨o5, brT (by omega) ⟨Or.inr rfl, brF (by decide) ?_⟩⟩⟩⟩)
  by_cases a : l3 < 0
  · exact brT a (hno (by omega))
  refine brF a ⟨o, o5, by rw [p4]; exact ga_oa q4 (by omega) (by omega), ?_⟩
  rw [p4, d4]
  by_cases b : l3 < d.2.2.2.1
  case neg => exact brF b (hno (by omega))
  refine brT b ⟨o, o5, ?_⟩
  have hQ := hQ (by omega) b
  have key : ∀ (k i : Nat), i + k = l3.toNat → wE_behind_7 (fun x14 H12 G13 => Q x14 H12 G13) (k + 1) (H (H 15 l1) 10) l3 (nxt N (l2.toNat + 1) i : Nat) i H G := by
    intro k
    induction k with
    | zero =>
      intro i hi
      have hi : i = l3.toNat := hi
      subst hi
      exact brF (by omega) hQ
    | succ k ih =>
      intro i hi
      have hm := hch (nxt N (l2.toNat + 1) i) (List.mem_of_getElem? (chl_at N _ _ i (by omega)))
      obtain ⟨dx, hdx⟩ : ∃ x, N[nxt N (l2.toNat + 1) i]? = some x := ⟨N[nxt N (l2.toNat + 1) i], List.getElem?_eq_getElem hm⟩
      have d6 := (hTC _ _ hdx).2.2.2.2.2
      have sz := hsz _ _ hdx
      have es : szn N (nxt N (l2.toNat + 1) i) = dx.2.2.2.2.2.toNat := by unfold szn; rw [hdx]
      have en : nxt N (l2.toNat + 1) (i + 1) = nxt N (l2.toNat + 1) i + dx.2.2.2.2.2.toNat := by rw [← es]; rfl
      refine brT (by omega) ⟨o5, brF (by omega) ⟨o5, brT (by rw [h0]; omega) ⟨Or.inr rfl, brF (by decide) ⟨o5, by rw [p5]; exact ga_oa q5 (by omega) (by omega), ?_⟩⟩⟩⟩
      rw [p5, show H (H (H 15 l1) 10 + 5) ((nxt N (l2.toNat + 1) i : Nat) : Int) = ((nxt N (l2.toNat + 1) (i + 1) : Nat) : Int) by rw [Int.zero_add] at d6; rw [d6, en]; omega, w_p1 (by omega)]
      exact ih (i + 1) (by omega)
  refine ⟨l3.toNat + 1, ?_⟩
  rw [e3_w32_id (x := l2 + 1) (by omega) (by omega)]
  have := key l3.toNat 0 (by omega)
  rw [show ((nxt N (l2.toNat + 1) 0 : Nat) : Int) = l2 + 1 by show ((l2.toNat + 1 : Nat) : Int) = _; omega] at this
  exact this
theorem nM_branch {l1 l2 l3 : Int} {d : a_ND} {nf : Nat} {N : List a_ND} (h12 : nf ≤ 12) (h41 : H 40 41 = (nf : Int)) (hl : 0 ≤ l1 ∧ l1 < (nf : Int)) (h99 : H 99 l1 = (N.length : Int)) (hn : N.length ≤ 120) (h2 : 0 ≤ l2 ∧ l2 < (N.length : Int)) (c2 : H 106 (300 * l1 + l2) = d.2.2.2.1) (hc : 0 ≤ d.2.2.2.1 ∧ d.2.2.2.1 ≤ 120) (hm : mch H (H 108 (300 * l1 + l2)) ((chl N d.2.2.2.1.toNat (l2.toNat + 1)).map (fun (c : Nat) => 300 * l1 + (c : Int)))) (hch : ∀ x : Nat, x ∈ chl N d.2.2.2.1.toNat (l2.toNat + 1) → x < N.length) (hno : ¬ (0 ≤ l3 ∧ l3 < d.2.2.2.1) → Q (-1) H G) (hQ : 0 ≤ l3 → l3 < d.2.2.2.1 → Q (nxt N (l2.toNat + 1) l3.toNat : Nat) H G) : wM_branch Q l1 l2 l3 H G := by
  refine cM_in (fun _ _ => ⟨Or.inr rfl, brF (by decide) ⟨by omega, ?_⟩⟩) (fun w => absurd ⟨hl.1, by rw [h41, e3_w32_id (by omega) (by omega)]; omega⟩ w)
  refine cM_in (fun _ _ => brF (by decide) ?_) (fun w => absurd ⟨h2.1, by rw [h99, e3_w32_id (by omega) (by omega)]; omega⟩ w)
  rw [e3_w32_id (x := 300 * l1) (by omega) (by omega), e3_w32_id (x := 300 * l1 + l2) (by omega) (by omega)]
  have ix : (0 : Int) ≤ 300 * l1 + l2 ∧ 300 * l1 + l2 < 3900 := by omega
  refine ⟨ix, cM_in (fun c e => brF (by decide) ⟨ix, ?_⟩) (fun w => brT rfl (hno (fun y => w ⟨y.1, ?_⟩)))⟩
  case refine_2 => rw [c2, e3_w32_id (by omega) (by omega)]; omega
  rw [c2] at e
  rw [e3_w32_id (by omega) (by omega)] at e
  have hQ := hQ c (by omega)
  have key : ∀ (k i : Nat) (L : List Int) (l4 : Int), i + k = l3.toNat → mch H l4 L → L[k]? = some (300 * l1 + (nxt N (l2.toNat + 1) l3.toNat : Nat)) → (∀ x, x ∈ L → 0 ≤ x ∧ x < 3900) → wM_branch_69 Q (k + 1) l1 l3 l4 i H G := by
    intro k
    induction k with
    | zero =>
      intro i L l4 hi hm hL _
      cases L with
      | nil => cases hL
      | cons x L =>
        have hL : some x = some (300 * l1 + ((nxt N (l2.toNat + 1) l3.toNat : Nat) : Int)) := hL
        cases hL
        refine brF (by omega) ?_
        rw [hm.1, e3_w32_id (x := 300 * l1) (by omega) (by omega), show 300 * l1 + ((nxt N (l2.toNat + 1) l3.toNat : Nat) : Int) - 300 * l1 = ((nxt N (l2.toNat + 1) l3.toNat : Nat) : Int) by omega]
        have hlt := hch (nxt N (l2.toNat + 1) l3.toNat) (List.mem_of_getElem? (chl_at N _ _ _ (by omega)))
        rw [e3_w32_id (by omega) (by omega)]
        exact hQ
    | succ k ih =>
      intro i L l4 hi hm hL hr
      cases L with
      | nil => cases hL
      | cons x L =>
        have hx := hr x (List.mem_cons_self ..)
        obtain ⟨m1, m2⟩ := hm
        rw [m1]
        refine brT (by omega) ⟨hx, ?_⟩
        rw [w_p1 (by omega)]
        exact ih (i + 1) L _ (by omega) m2 hL (fun y hy => hr y (List.mem_cons_of_mem _ hy))
  refine ⟨l3.toNat + 1, ?_⟩
  refine key l3.toNat 0 _ _ (by omega) hm ?_ (fun x hx => ?_)
  · rw [List.getElem?_map, chl_at N _ _ _ (by omega)]
    rfl
  · obtain ⟨y, y1, y2⟩ := List.mem_map.mp hx
    have := hch y y1
    omega
end BRV
