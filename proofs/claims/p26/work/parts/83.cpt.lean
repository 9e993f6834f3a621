def c_wh (k : Int) : Int := if k = 0 then 0 else if k = 5 then 2 else if k = 6 then 3 else 1
def c_lo (σ : e3_H) (q : Int) : Int := if σ 46 q = 1 ∨ σ 46 q = 2 ∨ σ 46 q = 5 then σ 48 q else if σ 46 q = 3 then σ 50 q else if σ 46 q = 4 then -1 else 0
def c_hi (σ : e3_H) (q : Int) : Int := if σ 46 q = 1 then σ 49 q else c_lo σ q
def c_nam (σ : e3_H) (r k : Int) : Int := if k = -4 then 0 else σ 57 (8 * r + k)
def c_lk (g : e3_H) (k : Int) : Int := if k = -4 then -1 else g 0 k
def c_wy (x y : Int) : Prop := (1 ≤ x ∧ x ≤ 10000) ∧ y = if x < 1000 then x else 1000
/-- a pattern's own row; g: 0 its address, 1 its place's code, 2 how the next one's code differs, 3 places' codes -/
def c_p0 (σ : e3_H) (r : Int) (g H : e3_H) (G : e3_G) (cnt q : Int) : Prop := 139 ≤ g 0 q ∧ g_at G (g 0 q) (110, 10) ∧ H (g 0 q) 0 = c_wh (σ 46 q) ∧ H (g 0 q) 1 = σ 47 q ∧ (0 ≤ H (g 0 q) 2 ∧ H (g 0 q) 2 < cnt) ∧ g 3 (H (g 0 q) 2) = g 1 q ∧ H (g 0 q) 3 = c_lo σ q ∧ H (g 0 q) 4 = c_hi σ q ∧ H (g 0 q) 5 = c_nam σ r (σ 53 q) ∧ (σ 53 q = -4 ∨ (0 ≤ σ 53 q ∧ σ 53 q < σ 56 r))
def c_pa (σ : e3_H) (r : Int) (g H : e3_H) (q : Int) : Prop := H (g 0 q) 6 = c_nam σ r (σ 54 q) ∧ (σ 54 q = -4 ∨ (0 ≤ σ 54 q ∧ σ 54 q < σ 56 r))
def c_l1 (σ g H : e3_H) (hi q : Int) : Prop := H (g 0 q) 7 = c_lk g (σ 51 q) ∧ (σ 51 q = -4 ∨ (q < σ 51 q ∧ σ 51 q < hi ∧ g 1 (σ 51 q) = (if σ 46 q = 6 then g 1 q else 8 * g 1 q + 1) ∧ g 2 (σ 51 q) = (if σ 46 q = 6 then 0 else 1)))
def c_l2 (σ g H : e3_H) (hi q : Int) : Prop := H (g 0 q) 8 = c_lk g (σ 52 q) ∧ (σ 52 q = -4 ∨ (q < σ 52 q ∧ σ 52 q < hi ∧ g 1 (σ 52 q) = g 1 q + g 2 q ∧ g 2 (σ 52 q) = g 2 q))
def c_pt (σ : e3_H) (r : Int) (g H : e3_H) (G : e3_G) (cnt hi q : Int) : Prop := c_p0 σ r g H G cnt q ∧ c_pa σ r g H q ∧ c_l1 σ g H hi q ∧ c_l2 σ g H hi q ∧ c_wy (H (g 0 q) 9) (σ 55 q)
section CPT
variable {σ σ2 g g2 H K : e3_H} {G G2 : e3_G} {r cnt cnt2 hi hi2 q : Int}
theorem c_nam_eq {k : Int} (hk : k = -4 ∨ (0 ≤ k ∧ k < σ 56 r)) (hn : ∀ k : Int, 0 ≤ k → k < σ 56 r → σ2 57 (8 * r + k) = σ 57 (8 * r + k)) : c_nam σ2 r k = c_nam σ r k := by
  unfold c_nam
  by_cases hz : k = -4
  · rw [if_pos hz, if_pos hz]
  · rw [if_neg hz, if_neg hz]; exact hn k (by omega) (by omega)
theorem c_p0_keep (h : c_p0 σ r g H G cnt q) (hG : ∃ E, G2 = G ++ E) (hσ : ∀ a : Int, 46 ≤ a → a ≤ 50 ∨ a = 53 → σ2 a q = σ a q) (hn : ∀ k : Int, 0 ≤ k → k < σ 56 r → σ2 57 (8 * r + k) = σ 57 (8 * r + k)) (h56 : σ 56 r ≤ σ2 56 r) (hg0 : g2 0 q = g 0 q) (hg1 : g2 1 q = g 1 q) (hg3 : ∀ k : Int, 0 ≤ k → k < cnt → g2 3 k = g 3 k) (hc : cnt ≤ cnt2) (hH : ∀ k : Int, k ≤ 5 → K (g 0 q) k = H (g 0 q) k) : c_p0 σ2 r g2 K G2 cnt2 q := by
  obtain ⟨h1, h2, h3, h4, h5, h6, h7, h8, h9, h10⟩ := h
  obtain ⟨E, rfl⟩ := hG
  unfold c_p0
  have el : c_lo σ2 q = c_lo σ q := by unfold c_lo; rw [hσ 46 (by omega) (by omega), hσ 48 (by omega) (by omega), hσ 50 (by omega) (by omega)]
  have eh : c_hi σ2 q = c_hi σ q := by unfold c_hi; rw [hσ 46 (by omega) (by omega), hσ 49 (by omega) (by omega), el]
  rw [hg0, hg1, hH 0 (by omega), hH 1 (by omega), hH 2 (by omega), hH 3 (by omega), hH 4 (by omega), hH 5 (by omega), hσ 46 (by omega) (by omega), hσ 47 (by omega) (by omega), hσ 53 (by omega) (by omega), el, eh, c_nam_eq h10 hn, hg3 _ h5.1 h5.2]
  exact ⟨h1, ga_app h2, h3, h4, by omega, h6, h7, h8, h9, by omega⟩
theorem c_pa_keep (h : c_pa σ r g H q) (hσ : σ2 54 q = σ 54 q) (hn : ∀ k : Int, 0 ≤ k → k < σ 56 r → σ2 57 (8 * r + k) = σ 57 (8 * r + k)) (h56 : σ 56 r ≤ σ2 56 r) (hg0 : g2 0 q = g 0 q) (hH : K (g 0 q) 6 = H (g 0 q) 6) : c_pa σ2 r g2 K q := by
  unfold c_pa
  rw [hσ, hg0, hH, c_nam_eq h.2 hn]
  exact ⟨h.1, by have := h.2; omega⟩
theorem c_l1_keep (h : c_l1 σ g H hi q) (h46 : σ2 46 q = σ 46 q) (h51 : σ2 51 q = σ 51 q) (hg : ∀ a k : Int, 0 ≤ a → a ≤ 2 → k < hi → g2 a k = g a k) (hq : q < hi) (hh : hi ≤ hi2) (hH : K (g 0 q) 7 = H (g 0 q) 7) : c_l1 σ2 g2 K hi2 q := by
  obtain ⟨h1, h2⟩ := h
  unfold c_l1 c_lk
  unfold c_lk at h1
  rw [h51, h46, hg 0 q (by omega) (by omega) hq, hH]
  rcases h2 with h2 | ⟨a, b, c, d⟩
  · rw [if_pos h2] at h1 ⊢
    exact ⟨h1, Or.inl h2⟩
  · by_cases hz : σ 51 q = -4
    · rw [if_pos hz] at h1 ⊢
      exact ⟨h1, Or.inl hz⟩
    · rw [if_neg hz] at h1 ⊢
      rw [hg 0 _ (by omega) (by omega) b, hg 1 _ (by omega) (by omega) b, hg 1 _ (by omega) (by omega) hq, hg 2 _ (by omega) (by omega) b]
      exact ⟨h1, Or.inr ⟨a, by omega, c, d⟩⟩
theorem c_l2_keep (h : c_l2 σ g H hi q) (h52 : σ2 52 q = σ 52 q) (hg : ∀ a k : Int, 0 ≤ a → a ≤ 2 → k < hi → g2 a k = g a k) (hq : q < hi) (hh : hi ≤ hi2) (hH : K (g 0 q) 8 = H (g 0 q) 8) : c_l2 σ2 g2 K hi2 q := by
  obtain ⟨h1, h2⟩ := h
  unfold c_l2 c_lk
  unfold c_lk at h1
  rw [h52, hg 0 q (by omega) (by omega) hq, hH]
  rcases h2 with h2 | ⟨a, b, c, d⟩
  · rw [if_pos h2] at h1 ⊢
    exact ⟨h1, Or.inl h2⟩
  · by_cases hz : σ 52 q = -4
    · rw [if_pos hz] at h1 ⊢
      exact ⟨h1, Or.inl hz⟩
    · rw [if_neg hz] at h1 ⊢
      rw [hg 0 _ (by omega) (by omega) b, hg 1 _ (by omega) (by omega) b, hg 1 _ (by omega) (by omega) hq, hg 2 _ (by omega) (by omega) b, hg 2 _ (by omega) (by omega) hq]
      exact ⟨h1, Or.inr ⟨a, by omega, c, d⟩⟩
theorem c_pt_keep (h : c_pt σ r g H G cnt hi q) (hG : ∃ E, G2 = G ++ E) (hσ : ∀ a : Int, 46 ≤ a → a ≤ 55 → σ2 a q = σ a q) (hn : ∀ k : Int, 0 ≤ k → k < σ 56 r → σ2 57 (8 * r + k) = σ 57 (8 * r + k)) (h56 : σ 56 r ≤ σ2 56 r) (hg : ∀ a k : Int, 0 ≤ a → a ≤ 2 → k < hi → g2 a k = g a k) (hg3 : ∀ k : Int, 0 ≤ k → k < cnt → g2 3 k = g 3 k) (hc : cnt ≤ cnt2) (hq : q < hi) (hh : hi ≤ hi2) (hH : ∀ k : Int, K (g 0 q) k = H (g 0 q) k) : c_pt σ2 r g2 K G2 cnt2 hi2 q := by
  obtain ⟨h1, h2, h3, h4, h5⟩ := h
  refine ⟨c_p0_keep h1 hG (fun a x y => hσ a x (by omega)) hn h56 (hg 0 q (by omega) (by omega) hq) (hg 1 q (by omega) (by omega) hq) hg3 hc (fun k _ => hH k), c_pa_keep h2 (hσ 54 (by omega) (by omega)) hn h56 (hg 0 q (by omega) (by omega) hq) (hH 6), c_l1_keep h3 (hσ 46 (by omega) (by omega)) (hσ 51 (by omega) (by omega)) hg hq hh (hH 7), c_l2_keep h4 (hσ 52 (by omega) (by omega)) hg hq hh (hH 8), ?_⟩
  rw [hg 0 q (by omega) (by omega) hq, hH 9, hσ 55 (by omega) (by omega)]
  exact h5
end CPT
/-- ways: products and sums, cut off at 10000 here and at 1000 there -/
theorem wy_mul {x y u v : Int} (h : c_wy x u) (h2 : c_wy y v) : c_wy (if 10000 < x * y then 10000 else x * y) (if 1000 < u * v then 1000 else u * v) := by
  obtain ⟨⟨a1, a2⟩, a3⟩ := h
  obtain ⟨⟨b1, b2⟩, b3⟩ := h2
  have m1 : 1 ≤ x * y := by
    have := Int.mul_le_mul a1 b1 (by omega) (by omega)
    omega
  have mx : x ≤ x * y := by
    have := Int.mul_le_mul (Int.le_refl x) b1 (by omega) (by omega)
    omega
  have my : y ≤ x * y := by
    have := Int.mul_le_mul a1 (Int.le_refl y) (by omega) (by omega)
    omega
  refine ⟨by split <;> omega, ?_⟩
  by_cases cx : x < 1000
  · rw [if_pos cx] at a3
    by_cases cy : y < 1000
    · rw [if_pos cy] at b3
      rw [a3, b3]
      split <;> split <;> split <;> omega
    · rw [if_neg cy] at b3
      have m2 : 1000 ≤ u * v := by
        rw [a3, b3]
        have := Int.mul_le_mul a1 (Int.le_refl 1000) (by omega) (by omega)
        omega
      split <;> split <;> split <;> omega
  · rw [if_neg cx] at a3
    have m2 : 1000 ≤ u * v := by
      have hv : 1 ≤ v := by rw [b3]; split <;> omega
      rw [a3]
      have := Int.mul_le_mul (Int.le_refl 1000) hv (by omega) (by omega)
      omega
    split <;> split <;> split <;> omega
theorem wy_add {x y u v : Int} (h : c_wy x u) (h2 : c_wy y v) : c_wy (if 10000 < x + y then 10000 else x + y) (if 1000 < u + v then 1000 else u + v) := by
  obtain ⟨⟨a1, a2⟩, a3⟩ := h
  obtain ⟨⟨b1, b2⟩, b3⟩ := h2
  refine ⟨by split <;> omega, ?_⟩
  by_cases cx : x < 1000
  · rw [if_pos cx] at a3
    by_cases cy : y < 1000
    · rw [if_pos cy] at b3
      split <;> split <;> split <;> omega
    · rw [if_neg cy] at b3
      split <;> split <;> split <;> omega
  · rw [if_neg cx] at a3
    have hv : 1 ≤ v := by rw [b3]; split <;> omega
    split <;> split <;> split <;> omega
/-- a chain of patterns -/
def chn (H : e3_H) : Int → List Int → Prop
  | a, [] => a < 0
  | a, c :: l => a = c ∧ chn H (H c 8) l
def wys (H : e3_H) : Int → List Int → Int
  | x, [] => x
  | x, c :: l => wys H (if 10000 < x * H c 9 then 10000 else x * H c 9) l
theorem wys_snoc (H : e3_H) : ∀ (l : List Int) (x c : Int), wys H x (l ++ [c]) = if 10000 < wys H x l * H c 9 then 10000 else wys H x l * H c 9 := by
  intro l
  induction l with
  | nil => intro x c; rfl
  | cons b l ih => intro x c; exact ih _ c
theorem wys_eq {H K : e3_H} : ∀ (l : List Int) (x : Int), (∀ c ∈ l, K c 9 = H c 9) → wys K x l = wys H x l := by
  intro l
  induction l with
  | nil => intro x _; rfl
  | cons b l ih =>
    intro x h
    show wys K (if 10000 < x * K b 9 then 10000 else x * K b 9) l = wys H (if 10000 < x * H b 9 then 10000 else x * H b 9) l
    rw [h b (List.mem_cons_self ..), ih _ (fun c hc => h c (List.mem_cons_of_mem _ hc))]
theorem chn_eq {H K : e3_H} : ∀ (l : List Int) (a : Int), (∀ c ∈ l, K c 8 = H c 8) → chn H a l → chn K a l := by
  intro l
  induction l with
  | nil => intro a _ h; exact h
  | cons b l ih =>
    intro a h hc
    refine ⟨hc.1, ?_⟩
    rw [h b (List.mem_cons_self ..)]
    exact ih _ (fun c hc => h c (List.mem_cons_of_mem _ hc)) hc.2
theorem chn_snoc {H K : e3_H} {last one : Int} : ∀ (l : List Int) (a : Int), chn H a (l ++ [last]) → (∀ c ∈ l, K c 8 = H c 8) → K last 8 = one → K one 8 < 0 → chn K a (l ++ [last] ++ [one]) := by
  intro l
  induction l with
  | nil => intro a h _ h1 h2; exact ⟨h.1, h1, h2⟩
  | cons b l ih =>
    intro a h h0 h1 h2
    refine ⟨h.1, ?_⟩
    rw [h0 b (List.mem_cons_self ..)]
    exact ih _ h.2 (fun c hc => h0 c (List.mem_cons_of_mem _ hc)) h1 h2
theorem cA_chainWays {Q : Int → e3_H → e3_G → Prop} {H : e3_H} {G : e3_G} : ∀ (l : List Int) (x a : Int), chn H a l → (∀ c ∈ l, 0 ≤ c ∧ g_at G c (110, 10) ∧ 1 ≤ H c 9 ∧ H c 9 ≤ 10000) → 1 ≤ x → x ≤ 10000 → Q (wys H x l) H G → wA_chainWays_4 Q (l.length + 1) x a H G := by
  intro l
  induction l with
  | nil =>
    intro x a h _ _ _ hQ
    exact brT h hQ
  | cons b l ih =>
    intro x a h hl x1 x2 hQ
    obtain ⟨b0, b1, b2, b3⟩ := hl b (List.mem_cons_self ..)
    obtain ⟨e, hc⟩ := h
    subst e
    have m1 : 1 ≤ x * H a 9 := by
      have := Int.mul_le_mul x1 b2 (by omega) (by omega)
      omega
    have m2 : x * H a 9 ≤ 10000 * 10000 := Int.mul_le_mul x2 b3 (by omega) (by omega)
    refine brF (by omega) ⟨ga_ob (c := 10) b1, ?_⟩
    rw [e3_w32_id (x := x * H a 9) (by omega) (by omega)]
    unfold wJ_min_II wJ_min_II_10
    have hQ2 : Q (wys H (if 10000 < x * H a 9 then 10000 else x * H a 9) l) H G := hQ
    have hl2 : ∀ c ∈ l, 0 ≤ c ∧ g_at G c (110, 10) ∧ 1 ≤ H c 9 ∧ H c 9 ≤ 10000 := fun c hc => hl c (List.mem_cons_of_mem _ hc)
    refine ⟨fun hz => ⟨ga_ob (c := 10) b1, ?_⟩, fun hz => ⟨ga_ob (c := 10) b1, ?_⟩⟩
    · rw [if_neg (by omega)] at hQ2
      exact ih _ _ hc hl2 m1 (by omega) hQ2
    · by_cases hq : 10000 < x * H a 9
      · rw [if_pos hq] at hQ2
        exact ih _ _ hc hl2 (by omega) (by omega) hQ2
      · rw [if_neg hq] at hQ2
        have : x * H a 9 = 10000 := by omega
        rw [this] at hQ2
        exact ih _ _ hc hl2 (by omega) (by omega) hQ2
