theorem i32_id {x : Int} (h1 : -2147483648 ≤ x) (h2 : x ≤ 2147483647) : (Int32.ofInt x).toInt = x := by
  rw [Int32.toInt_ofInt]
  show x.bmod 4294967296 = x
  rw [← e3_w32_bm, e3_w32_id h1 h2]
theorem i32_div {x y : Int} (hx : 0 ≤ x ∧ x ≤ 2147483647) (hy : 1 ≤ y ∧ y ≤ 2147483647) : (Int32.ofInt x / Int32.ofInt y).toInt = x / y := by
  rw [Int32.toInt_div, i32_id (by omega) (by omega), i32_id (by omega) (by omega), Int.tdiv_eq_ediv_of_nonneg hx.1]
  show (x / y).bmod 4294967296 = x / y
  have h1 := Int.ediv_nonneg hx.1 (show 0 ≤ y by omega)
  have h2 := Int.ediv_le_self y hx.1
  rw [← e3_w32_bm, e3_w32_id (by omega) (by omega)]
theorem e3_div_id {x y : Int} (hx : 0 ≤ x ∧ x ≤ 2147483647) (hy : 1 ≤ y ∧ y ≤ 2147483647) : e3_div x y = x / y := i32_div hx hy
theorem e3_rem_id {x y : Int} (hx : 0 ≤ x ∧ x ≤ 2147483647) (hy : 1 ≤ y ∧ y ≤ 2147483647) : e3_rem x y = x % y := by
  show (Int32.ofInt x - Int32.ofInt x / Int32.ofInt y * Int32.ofInt y).toInt = x % y
  rw [Int32.toInt_sub, Int32.toInt_mul, i32_div hx hy, i32_id (x := x) (by omega) (by omega), i32_id (x := y) (by omega) (by omega)]
  show (x - (x / y * y).bmod 4294967296).bmod 4294967296 = x % y
  have h1 := Int.ediv_nonneg hx.1 (show 0 ≤ y by omega)
  have h3 := Int.emod_nonneg x (show y ≠ 0 by omega)
  have h4 := Int.emod_lt_of_pos x (show 0 < y by omega)
  have h5 := Int.ediv_mul_add_emod x y
  have h6 := Int.mul_nonneg h1 (show 0 ≤ y by omega)
  rw [← e3_w32_bm, ← e3_w32_bm, e3_w32_id (x := x / y * y) (by omega) (by omega), e3_w32_id (by omega) (by omega)]
  omega
theorem tsn_0 {σ : e3_H} : ∀ V : List (Int × Int), 0 ≤ tsn σ V := by
  intro V
  induction V with
  | nil => exact Int.le_refl _
  | cons p l ih => show 0 ≤ (if σ 46 p.1 = 0 ∨ σ 46 p.1 = 6 then 0 else 1) + tsn σ l; split <;> omega
theorem tsn_app {σ : e3_H} : ∀ V W : List (Int × Int), tsn σ (V ++ W) = tsn σ V + tsn σ W := by
  intro V W
  induction V with
  | nil => show tsn σ W = 0 + tsn σ W; omega
  | cons p l ih => show _ + tsn σ (l ++ W) = _ + tsn σ l + tsn σ W; rw [ih]; omega
theorem ach_inj {σ : e3_H} : ∀ (L M : List Int) (a : Int), (∀ c, c ∈ L → c ≠ -4) → (∀ c, c ∈ M → c ≠ -4) → ach σ a L → ach σ a M → L = M := by
  intro L
  induction L with
  | nil =>
    intro M a _ h2 e1 e2
    cases M with
    | nil => rfl
    | cons c l => exact absurd (e2.1.symm.trans e1) (h2 c (List.mem_cons_self ..))
  | cons d l ih =>
    intro M a h1 h2 e1 e2
    cases M with
    | nil => exact absurd (e1.1.symm.trans e2) (h1 d (List.mem_cons_self ..))
    | cons c m =>
      have hdc : d = c := e1.1.symm.trans e2.1
      subst hdc
      rw [ih m _ (fun y hy => h1 y (List.mem_cons_of_mem _ hy)) (fun y hy => h2 y (List.mem_cons_of_mem _ hy)) e1.2 e2.2]
/-- what laying a row reads: the row, its rule, the patterns from lo to hi -/
def LX (σ : e3_H) (r : Int) (g : e3_H) (pn : Int → Int) (G : e3_G) (cnt : Nat) (R ru lo hi : Int) (H : e3_H) : Prop := O_ob R ru cnt H G ∧ U_ok σ r ru H G ∧ ru + 1 < R ∧ cnt ≤ 100000 ∧ 0 ≤ lo ∧ ∀ q : Int, lo ≤ q → q < hi → c_pt σ r g H G cnt hi q ∧ g 0 q < R ∧ H (g 0 q) 2 = pn q
section LAY
variable {σ g : e3_H} {r R ru lo hi : Int} {pn : Int → Int} {G : e3_G} {cnt : Nat}
theorem LX_1 {q : Int} {H : e3_H} (h : LX σ r g pn G cnt R ru lo hi H) : LX σ r g pn G cnt R ru lo hi (rw_1 R pn σ g q H) := by
  obtain ⟨⟨o1, o2, o3, ⟨o4, o5⟩, ⟨o6, o7⟩, ⟨o8, o9⟩⟩, h2, h3, h4, h5, h6⟩ := h
  refine ⟨⟨o1, o2, by rw [rw_1_R (by decide)]; exact o3, ⟨by rw [rw_1_R (by decide)]; exact o4, o5⟩, ⟨by rw [rw_1_R (by decide)]; exact o6, o7⟩, ⟨by rw [rw_1_R (by decide)]; exact o8, o9⟩⟩, U_ok_eq h2 h3 (fun b x hb => rw_1_at hb), h3, h4, h5, fun p p1 p2 => ?_⟩
  obtain ⟨a, b, c⟩ := h6 p p1 p2
  exact ⟨c_pt_keep a ⟨[], (List.append_nil _).symm⟩ (fun _ _ _ => rfl) (fun _ _ _ => rfl) (Int.le_refl _) (fun _ _ _ _ _ => rfl) (fun _ _ _ => rfl) (Int.le_refl _) p2 (Int.le_refl _) (fun k => rw_1_at b), b, by rw [rw_1_at b]; exact c⟩
theorem LX_st : ∀ (V : List (Int × Int)) (H : e3_H), LX σ r g pn G cnt R ru lo hi H → LX σ r g pn G cnt R ru lo hi (rw_st R pn σ g V H) := by
  intro V
  induction V with
  | nil => intro H h; exact h
  | cons p l ih => intro H h; exact ih _ (LX_1 h)
theorem wy_lt {x y : Int} (h : c_wy x y) (hy : y < 1000) : x = y ∧ 1 ≤ y := by
  obtain ⟨⟨h1, h2⟩, h3⟩ := h
  split at h3 <;> omega
theorem wys_wp {H : e3_H} : ∀ (L : List Int) (x : Int), 1 ≤ x → x * wp σ L < 1000 → (∀ c, c ∈ L → c_wy (H (g 0 c) 9) (σ 55 c)) → wys H x (L.map (g 0)) = x * wp σ L := by
  intro L
  induction L with
  | nil => intro x _ _ _; show x = x * 1; omega
  | cons c l ih =>
    intro x hx hl h
    have hr : ∀ y, y ∈ l → c_wy (H (g 0 y) 9) (σ 55 y) := fun y hy => h y (List.mem_cons_of_mem _ hy)
    have hpos : ∀ y, y ∈ l → 1 ≤ σ 55 y := fun y hy => by
      obtain ⟨⟨h1, h2⟩, h3⟩ := hr y hy
      split at h3 <;> omega
    have hc := h c (List.mem_cons_self ..)
    have c1 : 1 ≤ σ 55 c := by
      obtain ⟨⟨h1, h2⟩, h3⟩ := hc
      split at h3 <;> omega
    have hp := wp_1 l hpos
    have hl : x * (σ 55 c * wp σ l) < 1000 := hl
    have m1 := mul_1 c1 hp
    have m2 := mul_1 hx m1.1
    have e1 := (wy_lt hc (by omega)).1
    have hl2 : x * σ 55 c * wp σ l < 1000 := by rw [Int.mul_assoc]; exact hl
    have m3 := mul_1 hx c1
    have m4 := mul_1 m3.1 hp
    show wys H (if 10000 < x * H (g 0 c) 9 then 10000 else x * H (g 0 c) 9) (l.map (g 0)) = x * (σ 55 c * wp σ l)
    rw [e1, if_neg (by omega), ih _ m3.1 hl2 hr, Int.mul_assoc]
/-- children of the class in their chain -/
theorem ach_chn {H : e3_H} (hx : LX σ r g pn G cnt R ru lo hi H) : ∀ (L : List Int) (a : Int), ach σ a L → (∀ c, c ∈ L → lo ≤ c ∧ c < hi) → chn H (c_lk g a) (L.map (g 0)) := by
  obtain ⟨_, _, _, _, h5, h6⟩ := hx
  intro L
  induction L with
  | nil => intro a h _; have h : a = -4 := h; rw [h]; show (if (-4 : Int) = -4 then (-1 : Int) else g 0 (-4)) < 0; rw [if_pos rfl]; decide
  | cons c l ih =>
    intro a h hl
    have hc := hl c (List.mem_cons_self ..)
    have e : a = c := h.1
    subst e
    refine ⟨?_, ?_⟩
    · unfold c_lk; rw [if_neg (by omega)]
    · rw [(h6 a hc.1 hc.2).1.2.2.2.1.1]
      exact ih _ h.2 (fun y hy => hl y (List.mem_cons_of_mem _ hy))
theorem c_lk_pos {q : Int} (h : 0 ≤ q) : c_lk g q = g 0 q := by unfold c_lk; rw [if_neg (by omega)]
theorem cO_chain {n k : Nat} {d : Int} (ih : ∀ (q w x : Int) (V : List (Int × Int)) (H : e3_H) (Q : e3_H → e3_G → Prop), lyV σ k q w x V → wt σ k hi q → lo ≤ q → q < hi → σ 55 q < 1000 → LX σ r g pn G cnt R ru lo hi H → 0 ≤ H R 1 → H R 1 + tsn σ V ≤ cnt → 0 ≤ w → w ≤ 2147483647 → Q (rw_st R pn σ g V H) G → wO_lay n R (g 0 q) w d H G Q) : ∀ (L : List Int) (w x : Int) (V : List (Int × Int)) (H : e3_H) (a : Int) (Q : e3_H → e3_G → Prop), lyC (lyV σ k) σ L w x V → ach σ a L → (∀ c, c ∈ L → lo ≤ c ∧ c < hi ∧ wt σ k hi c) → 0 ≤ w → w ≤ 2147483647 → wp σ L < 1000 → LX σ r g pn G cnt R ru lo hi H → 0 ≤ H R 1 → H R 1 + tsn σ V ≤ cnt → Q (rw_st R pn σ g V H) G → wO_layChain_6 (wO_lay n) Q (L.length + 1) R d w (c_lk g a) H G := by
  intro L
  induction L with
  | nil =>
    intro w x V H a Q hv ha _ _ _ _ _ _ _ hQ
    have hv : V = [] := hv
    have ha : a = -4 := ha
    rw [hv] at hQ
    rw [ha]
    exact brT (by unfold c_lk; rw [if_pos rfl]; decide) hQ
  | cons c l ihl =>
    intro w x V H a Q hv ha hL w0 w1 hp hX hc0 hc1 hQ
    obtain ⟨V1, V2, e, v1, v2⟩ := hv
    have hz : a = c := ha.1
    subst hz
    obtain ⟨c1, c2, c3⟩ := hL a (List.mem_cons_self ..)
    have hLl : ∀ y, y ∈ l → lo ≤ y ∧ y < hi ∧ wt σ k hi y := fun y hy => hL y (List.mem_cons_of_mem _ hy)
    have hX2 := hX
    obtain ⟨hO, _, _, _, l0, hP⟩ := hX2
    obtain ⟨pc, pr, pp⟩ := hP a c1 c2
    have obR := ga_ob (c := 11) hO.2.1
    have ob := ga_ob (c := 10) pc.1.2.1
    have h139 : 139 ≤ g 0 a := pc.1.1
    have h8 : H (g 0 a) 8 = c_lk g (σ 52 a) := pc.2.2.2.1.1
    have hw : ∀ y, y ∈ l → c_wy (H (g 0 y) 9) (σ 55 y) := fun y hy => (hP y (hLl y hy).1 (hLl y hy).2.1).1.2.2.2.2
    have hpos : ∀ y, y ∈ l → 1 ≤ σ 55 y := fun y hy => by
      obtain ⟨⟨h1, h2⟩, h3⟩ := hw y hy
      split at h3 <;> omega
    have a1 : 1 ≤ σ 55 a := by
      obtain ⟨⟨h1, h2⟩, h3⟩ := pc.2.2.2.2
      split at h3 <;> omega
    have p1 := wp_1 l hpos
    have hp : σ 55 a * wp σ l < 1000 := hp
    have m := mul_1 a1 p1
    rw [e, tsn_app] at hc1
    have t1 := tsn_0 (σ := σ) V1
    have t2 := tsn_0 (σ := σ) V2
    have hat := rw_at (R := R) (pn := pn) (σ := σ) (g := g) V1 H
    rw [c_lk_pos (g := g) (by omega)]
    refine brF (by omega) ⟨ob, ?_⟩
    rw [h8]
    refine ⟨_, cA_chainWays (l.map (g 0)) 1 _ (ach_chn hX l _ ha.2 (fun y hy => ⟨(hLl y hy).1, (hLl y hy).2.1⟩)) (fun y hy => ?_) (by omega) (by omega) ?_⟩
    · obtain ⟨z, z1, z2⟩ := List.mem_map.mp hy
      subst z2
      have hz := (hP z (hLl z z1).1 (hLl z z1).2.1).1
      exact ⟨by have := hz.1.1; omega, hz.1.2.1, hz.2.2.2.2.1⟩
    · rw [wys_wp l 1 (by omega) (by omega) hw, Int.one_mul]
      refine brT (by omega) ⟨by omega, obR, ?_⟩
      have d1 := Int.ediv_nonneg w0 (show 0 ≤ wp σ l by omega)
      have d2 := Int.ediv_le_self (wp σ l) w0
      have d3 := Int.emod_nonneg w (show wp σ l ≠ 0 by omega)
      have d4 := Int.emod_lt_of_pos w (show 0 < wp σ l by omega)
      rw [e3_div_id ⟨w0, w1⟩ (by omega), e3_rem_id ⟨w0, w1⟩ (by omega)]
      refine ih a _ x V1 H _ v1 c3 c1 c2 (by omega) hX hc0 (by omega) d1 (by omega) ⟨by omega, ob, ?_⟩
      rw [hat.1 _ 8 pr, h8]
      refine ihl _ (x + 1) V2 _ _ Q v2 ha.2 hLl d3 (by omega) (by omega) (LX_st V1 H hX) (by rw [hat.2.2]; omega) (by rw [hat.2.2]; omega) ?_
      rw [← rw_app, ← e]
      exact hQ
end LAY
