/-- patterns lo .. hi-1 stand in the class's memory as told -/
def c_N (σ : e3_H) (r : Int) (g H : e3_H) (G : e3_G) (fu lo hi base : Int) : Prop := (∀ q : Int, lo ≤ q → q < hi → c_pt σ r g H G (H fu 7) hi q ∧ base ≤ g 0 q) ∧ ∀ q q2 : Int, lo ≤ q → q < q2 → q2 < hi → g 0 q < g 0 q2
def c_g (g g2 : e3_H) (lo cnt : Int) : Prop := (∀ a k : Int, 0 ≤ a → a ≤ 2 → k < lo → g2 a k = g a k) ∧ ∀ k : Int, 0 ≤ k → k < cnt → g2 3 k = g 3 k
def c_ok2 (t : Int → Int) (n s m : Nat) (ru fu : Int) (i : Nat) (σ g H : e3_H) (G : e3_G) (fl0 code : Int) (j : Nat) (σ2 : e3_H) (p : Int) (K : e3_H) (G2 : e3_G) (g2 : e3_H) : Prop :=
  c_M t n s j m ru fu σ2 (g2 3) K G2 ∧ c_E ru fu H G K G2 ∧ c_N σ2 (σ 40 27) g2 K G2 fu (σ 40 16) (σ2 40 16) G.length ∧ c_g g g2 (σ 40 16) (H fu 7) ∧ g2 1 p = code ∧ g2 2 p = fl0 ∧ σ2 52 p = -4 ∧ 2 * K fu 7 + 1 ≤ 2 * H fu 7 + ((j : Int) - i) ∧ pot K G2 fu ≤ pot H G fu + 60 * ((j : Int) - i)
def PatOK (t : Int → Int) (n s m : Nat) (ru fu : Int) (f d F : Nat) : Prop := ∀ (s0 x fl0 : Int) (mu : Bool) (muI : Int) (i : Nat) (σ g H : e3_H) (G : e3_G) (Q : Int → e3_H → e3_G → Prop), muI = (if mu = true then 1 else 0) → c_M t n s i m ru fu σ (g 3) H G → p_inv σ m i → nm_inv (σ 40 27) m σ → σ 40 16 ≤ (i : Int) → H fu 7 ≤ (i : Int) + 1 → (0 ≤ s0 ∧ s0 < 3 + m) → (0 ≤ x ∧ x < H fu 7) →
  (∀ j σ2 p K G2 g2, a_pat t n f s0 d mu i σ = .inr (j, σ2, p) → c_ok2 t n s m ru fu i σ g H G fl0 (g 3 x) j σ2 p K G2 g2 → Q (g2 0 p) K G2) →
  (∀ q K G2, a_pat t n f s0 d mu i σ = .inl q → c_bad ru fu q H G K G2 → gz G2 ≤ pot H G fu + 128 + 60 * ((s : Int) - i + 1) → Q (-1) K G2) → wR_readPattern F s0 x d muI H G Q
/-- a pattern's object as it is made -/
def c_fresh (a s0 x : Int) (K : e3_H) : Prop := K a 0 = 0 ∧ K a 1 = s0 ∧ K a 2 = x ∧ K a 3 = 0 ∧ K a 4 = 0 ∧ K a 5 = 0 ∧ K a 6 = 0 ∧ K a 7 = -1 ∧ K a 8 = -1 ∧ K a 9 = 1
theorem x_dz10 : ∀ k : Fin 10, e3_dz (wFc.getD 10 []) ((k.val : Nat) : Int) = if k.val = 7 ∨ k.val = 8 then -1 else 0 := by decide +kernel
theorem cA_init {Q : e3_H → e3_G → Prop} {H : e3_H} {G : e3_G} {s0 x : Int} (hQ : ∀ K, c_fresh G.length s0 x K → (∀ b k : Int, b ≠ G.length → K b k = H b k) → Q K (G ++ [(110, 10)])) : wA_init Q G.length s0 x (e3_nw H G.length (e3_dz (wFc.getD 10 []))) (G ++ [(110, 10)]) := by
  have ga : g_at (G ++ [(110, 10)]) (G.length : Int) (110, 10) := ga_new
  have ob := ga_ob (c := 10) ga
  unfold wA_init
  refine ⟨by omega, ob, ?_⟩
  intro H1 e1
  refine ⟨ob, ?_⟩
  intro H3 e3
  refine ⟨ob, ?_⟩
  intro H5 e5
  refine ⟨ob, ?_⟩
  intro H7 e7
  have dz : ∀ k : Nat, k < 10 → k ≠ 0 → k ≠ 9 → k ≠ 1 → k ≠ 2 → H7 G.length k = if k = 7 ∨ k = 8 then -1 else 0 := by
    intro k hk k0 k9 k1 k2
    rw [e7, e3_up_ne (by omega), e5, e3_up_ne (by omega), e3, e3_up_ne (by omega), e1, e3_up_ne (by omega), nw_at]
    exact x_dz10 ⟨k, hk⟩
  refine hQ H7 ⟨?_, ?_, ?_, dz 3 (by omega) (by omega) (by omega) (by omega) (by omega), dz 4 (by omega) (by omega) (by omega) (by omega) (by omega), dz 5 (by omega) (by omega) (by omega) (by omega) (by omega), dz 6 (by omega) (by omega) (by omega) (by omega) (by omega), dz 7 (by omega) (by omega) (by omega) (by omega) (by omega), dz 8 (by omega) (by omega) (by omega) (by omega) (by omega), ?_⟩ (fun b k hb => ?_)
  · rw [e7, e5, e3, e1]; simp (disch := omega) only [e3_up_self, e3_up_ne]
  · rw [e7, e5]; simp (disch := omega) only [e3_up_self, e3_up_ne]
  · rw [e7, e3_up_self]
  · rw [e7, e5, e3]; simp (disch := omega) only [e3_up_self, e3_up_ne]
  · rw [e7, e3_up_ne (by omega), e5, e3_up_ne (by omega), e3, e3_up_ne (by omega), e1, e3_up_ne (by omega), nw_ne hb]
/-- a pattern's object, all but its ways -/
def c_rw (σ : e3_H) (r s0 x a p0 : Int) (K : e3_H) : Prop := K a 0 = c_wh (σ 46 p0) ∧ K a 1 = s0 ∧ K a 2 = x ∧ K a 3 = c_lo σ p0 ∧ K a 4 = c_hi σ p0 ∧ K a 5 = c_nam σ r (σ 53 p0) ∧ (σ 53 p0 = -4 ∨ (0 ≤ σ 53 p0 ∧ σ 53 p0 < σ 56 r)) ∧ K a 6 = 0 ∧ K a 7 = -1 ∧ K a 8 = -1
/-- ghosts with one pattern more -/
def g_new (g : e3_H) (p0 a code fl0 : Int) : e3_H := e3_up (e3_up (e3_up g 0 p0 a) 1 p0 code) 2 p0 fl0
theorem g_new_3 (g : e3_H) (p0 a code fl0 : Int) : g_new g p0 a code fl0 3 = g 3 := by funext k; unfold g_new; simp (disch := omega) only [e3_up_self, e3_up_ne]
theorem g_new_at (g : e3_H) (p0 a code fl0 : Int) : g_new g p0 a code fl0 0 p0 = a ∧ g_new g p0 a code fl0 1 p0 = code ∧ g_new g p0 a code fl0 2 p0 = fl0 ∧ ∀ b k : Int, k ≠ p0 → g_new g p0 a code fl0 b k = g b k := by
  unfold g_new
  refine ⟨by simp (disch := omega) only [e3_up_self, e3_up_ne], by simp (disch := omega) only [e3_up_self, e3_up_ne], by simp (disch := omega) only [e3_up_self, e3_up_ne], fun b k hk => ?_⟩
  rw [e3_up_ne (by omega), e3_up_ne (by omega), e3_up_ne (by omega)]
section CQ
variable {t : Int → Int} {n s i j m : Nat} {ru fu : Int} {σ σ1 g H K : e3_H} {G : e3_G} {s0 x fl0 : Int}
theorem gz_pot (hM : c_M t n s i m ru fu σ (g 3) H G) : gz G ≤ pot H G fu + 128 := by
  obtain ⟨_, _, _, ⟨q1, q2, L, q3, q4, q5, q6, q7, _⟩, _⟩ := hM
  unfold pot
  rw [ga_ln q3.2]
  omega
theorem pot_new {K : e3_H} (hM : c_M t n s i m ru fu σ (g 3) H G) (h7 : K fu 7 = H fu 7) (h8 : K fu 8 = H fu 8) : pot K (G ++ [(110, 10)]) fu = pot H G fu + 22 := by
  obtain ⟨_, _, _, ⟨q1, q2, L, q3, _⟩, _⟩ := hM
  unfold pot
  rw [h7, h8, gz_one, ga_ln q3.2, ga_ln (ga_app q3.2)]
  simp only
  omega
/-- the row of a pattern that has begun -/
theorem c_p0_new {a : Int} (hrw : c_rw σ1 (σ 40 27) s0 x a (σ 40 16) K) (h47 : σ1 47 (σ 40 16) = s0) (h139 : 139 ≤ a) (ha : g_at G a (110, 10)) (hx : 0 ≤ x ∧ x < K fu 7) : c_p0 σ1 (σ 40 27) (g_new g (σ 40 16) a (g 3 x) fl0) K G (K fu 7) (σ 40 16) := by
  obtain ⟨r0, r1, r2, r3, r4, r5, r6, r7, r8, r9⟩ := hrw
  obtain ⟨g0, g1, g2, g3⟩ := g_new_at g (σ 40 16) a (g 3 x) fl0
  unfold c_p0
  rw [g0, g1, g_new_3, r0, r1, r2, r3, r4, r5, h47]
  exact ⟨h139, ha, rfl, rfl, hx, rfl, rfl, rfl, rfl, r6⟩
/-- a pattern with nothing hanging on it -/
theorem c_leaf (hM0 : c_M t n s i m ru fu σ (g 3) H G) (hM : c_M t n s j m ru fu σ1 (g 3) K (G ++ [(110, 10)])) (hE : c_E ru fu H G K (G ++ [(110, 10)])) (hij : i < j) (hfr : a_fr (σ 40 16) σ σ1) (h16 : σ1 40 16 = σ 40 16 + 1) (h47 : σ1 47 (σ 40 16) = s0) (h51 : σ1 51 (σ 40 16) = -4) (h52 : σ1 52 (σ 40 16) = -4) (h54 : σ1 54 (σ 40 16) = -4) (h55 : σ1 55 (σ 40 16) = 1) (hx : 0 ≤ x ∧ x < H fu 7) (h7 : H fu 7 ≤ (i : Int) + 1) (e7 : K fu 7 = H fu 7) (e8 : K fu 8 = H fu 8) (hrw : c_rw σ1 (σ 40 27) s0 x G.length (σ 40 16) K) (h9 : K G.length 9 = 1) : c_ok2 t n s m ru fu i σ g H G fl0 (g 3 x) j σ1 (σ 40 16) K (G ++ [(110, 10)]) (g_new g (σ 40 16) G.length (g 3 x) fl0) := by
  have hd := c_M_ad hM0
  obtain ⟨g0, g1, g2, g3⟩ := g_new_at g (σ 40 16) G.length (g 3 x) fl0
  have ga : g_at (G ++ [(110, 10)]) (G.length : Int) (110, 10) := ga_new
  refine ⟨by rw [g_new_3]; exact hM, hE, ⟨fun q q0 q1 => ?_, fun q q2 y1 y2 y3 => by omega⟩, ⟨fun b k _ _ hk => g3 b k (by omega), fun k _ _ => by rw [g_new_3]⟩, g1, g2, h52, by omega, by rw [pot_new hM0 e7 e8]; omega⟩
  have hq : q = σ 40 16 := by omega
  subst hq
  refine ⟨⟨c_p0_new hrw h47 (by omega) ga (by omega), ⟨?_, by omega⟩, ⟨?_, Or.inl h51⟩, ⟨?_, Or.inl h52⟩, ?_⟩, by rw [g0]; omega⟩
  · rw [g0, h54]; unfold c_nam; rw [if_pos rfl]; exact hrw.2.2.2.2.2.2.2.1
  · rw [g0, h51]; unfold c_lk; rw [if_pos rfl]; exact hrw.2.2.2.2.2.2.2.2.1
  · rw [g0, h52]; unfold c_lk; rw [if_pos rfl]; exact hrw.2.2.2.2.2.2.2.2.2
  · rw [g0, h9, h55]; exact ⟨by omega, by rw [if_pos (by omega)]⟩
end CQ
