/-- a pattern that a row tests, in the class -/
def DXp (σ g : e3_H) (pn cx : Int → Int) (cnt : Nat) (H : e3_H) (G : e3_G) (p : Int × Int) : Prop := (139 ≤ g 0 p.1 ∧ g_at G (g 0 p.1) (110, 10)) ∧ H (g 0 p.1) 0 = c_wh (σ 46 p.1) ∧ H (g 0 p.1) 1 = σ 47 p.1 ∧ H (g 0 p.1) 2 = pn p.1 ∧ (0 ≤ pn p.1 ∧ pn p.1 < cnt) ∧ cx (pn p.1) = p.2 ∧ H (g 0 p.1) 3 = c_lo σ p.1 ∧ H (g 0 p.1) 4 = c_hi σ p.1 ∧ nod σ p.1 ∧ (σ 46 p.1 ≠ 0 ∧ σ 46 p.1 ≠ 6) ∧ 1 ≤ p.2
/-- a row, in the class -/
def DXr (σ g : e3_H) (pn cx : Int → Int) (cnt : Nat) (H : e3_H) (G : e3_G) (a : Int) (w : Int × List (Int × Int)) : Prop := (139 ≤ a ∧ g_at G a (111, 5)) ∧ H a 1 = w.2.length ∧ (H a 2 = a + 2 ∧ g_at G (a + 2) (7, cnt)) ∧ (H a 3 = a + 3 ∧ g_at G (a + 3) (7, cnt)) ∧ (∀ (j : Nat) (p : Int × Int), w.2[j]? = some p → H (a + 2) j = g 0 p.1) ∧ (∀ x : Int, 0 ≤ x → x < cnt → (∃ p, p ∈ w.2 ∧ pn p.1 = x ∧ H (a + 3) x = g 0 p.1) ∨ ((∀ p, p ∈ w.2 → pn p.1 ≠ x) ∧ H (a + 3) x = -1)) ∧ w.2.Pairwise (fun a b => a.2 ≠ b.2) ∧ w.2.length ≤ cnt ∧ (∀ p, p ∈ w.2 → DXp σ g pn cx cnt H G p) ∧ ((139 ≤ H a 0 ∧ g_at G (H a 0) (109, 19)) ∧ H (H a 0) 7 = σ 78 w.1)
/-- a FUNCTION whose tree is drawn -/
def DX (σ g : e3_H) (m : Nat) (pn cx : Int → Int) (cnt : Nat) (R : a_RW) (fu : Int) (H : e3_H) (G : e3_G) : Prop := (c_kd σ m H ∧ k_inv σ m) ∧ (139 ≤ fu ∧ g_at G fu (108, 11)) ∧ (H fu 5 = R.length ∧ R.length ≤ 40) ∧ (H fu 6 = fu + 3 ∧ g_at G (fu + 3) (6, 40)) ∧ (H fu 7 = cnt ∧ cnt ≤ 100000 ∧ c_pl H G fu cx) ∧ (∀ (i : Nat) (w : Int × List (Int × Int)), R[i]? = some w → DXr σ g pn cx cnt H G (H (fu + 3) i) w) ∧ ∀ (i j : Nat) (v w : Int × List (Int × Int)), R[i]? = some v → R[j]? = some w → (H (H (fu + 3) i) 0 = H (H (fu + 3) j) 0 ↔ v.1 = w.1)
/-- what drawing may change: the maker, its labels, what is known, trees -/
def DF (G : e3_G) (H K : e3_H) : Prop := (∀ b x : Int, b < 16 ∨ (26 ≤ b ∧ b < 139) → K b x = H b x) ∧ ∀ (b x : Int) (c n : Nat), g_at G b (c, n) → c ≠ 104 → c ≠ 105 → ¬ (c = 0 ∧ n = 120) → ¬ (c = 1 ∧ 16 ≤ n) → K b x = H b x
theorem DF_rf (G : e3_G) (H : e3_H) : DF G H H := ⟨fun _ _ _ => rfl, fun _ _ _ _ _ _ _ _ _ => rfl⟩
theorem DF_tr {G : e3_G} {H K K2 : e3_H} (h : DF G H K) (h2 : DF G K K2) : DF G H K2 := ⟨fun b x hb => (h2.1 b x hb).trans (h.1 b x hb), fun b x c n h3 h4 h5 h6 h7 => (h2.2 b x c n h3 h4 h5 h6 h7).trans (h.2 b x c n h3 h4 h5 h6 h7)⟩
section CDX
variable {σ g : e3_H} {m : Nat} {pn cx : Int → Int} {cnt : Nat} {R : a_RW} {fu : Int} {H K : e3_H} {G E : e3_G}
theorem DXp_keep {p : Int × Int} (h : DXp σ g pn cx cnt H G p) (hf : DF G H K) : DXp σ g pn cx cnt K (G ++ E) p := by
  obtain ⟨⟨h0, h1⟩, h2, h3, h4, h5, h6, h7, h8, h9⟩ := h
  have e : ∀ x : Int, K (g 0 p.1) x = H (g 0 p.1) x := fun x => hf.2 _ x _ _ h1 (by decide) (by decide) (by decide) (by decide)
  exact ⟨⟨h0, ga_app h1⟩, by rw [e]; exact h2, by rw [e]; exact h3, by rw [e]; exact h4, h5, h6, by rw [e]; exact h7, by rw [e]; exact h8, h9⟩
theorem DXr_keep {a : Int} {w : Int × List (Int × Int)} (h : DXr σ g pn cx cnt H G a w) (hf : DF G H K) : DXr σ g pn cx cnt K (G ++ E) a w := by
  obtain ⟨⟨h0, h1⟩, h2, ⟨h3, h4⟩, ⟨h5, h6⟩, h7, h8, h9, h10, h11, ⟨h12, h13⟩, h14⟩ := h
  have e : ∀ x : Int, K a x = H a x := fun x => hf.2 _ x _ _ h1 (by decide) (by decide) (by decide) (by decide)
  have e2 : ∀ x : Int, K (a + 2) x = H (a + 2) x := fun x => hf.2 _ x _ _ h4 (by decide) (by decide) (fun z => absurd z.1 (by decide)) (fun z => absurd z.1 (by decide))
  have e3 : ∀ x : Int, K (a + 3) x = H (a + 3) x := fun x => hf.2 _ x _ _ h6 (by decide) (by decide) (fun z => absurd z.1 (by decide)) (fun z => absurd z.1 (by decide))
  have er : ∀ x : Int, K (H a 0) x = H (H a 0) x := fun x => hf.2 _ x _ _ h13 (by decide) (by decide) (by decide) (by decide)
  refine ⟨⟨h0, ga_app h1⟩, by rw [e]; exact h2, ⟨by rw [e]; exact h3, ga_app h4⟩, ⟨by rw [e]; exact h5, ga_app h6⟩, fun j p hp => by rw [e2]; exact h7 j p hp, fun x x0 x1 => by rw [e3]; exact h8 x x0 x1, h9, h10, fun p hp => DXp_keep (h11 p hp) hf, ⟨by rw [e]; exact ⟨h12, ga_app h13⟩, by rw [e, er]; exact h14⟩⟩
theorem DX_keep (h : DX σ g m pn cx cnt R fu H G) (hf : DF G H K) : DX σ g m pn cx cnt R fu K (G ++ E) := by
  obtain ⟨⟨a1, a2⟩, ⟨a3, a4⟩, a5, ⟨a6, a7⟩, ⟨a8, a9, a10⟩, a11, a12⟩ := h
  have e : ∀ x : Int, K fu x = H fu x := fun x => hf.2 _ x _ _ a4 (by decide) (by decide) (by decide) (by decide)
  have e3 : ∀ x : Int, K (fu + 3) x = H (fu + 3) x := fun x => hf.2 _ x _ _ a7 (by decide) (by decide) (by decide) (by decide)
  refine ⟨⟨ckd_eq a1 (fun a k ha => hf.1 a k (by omega)), a2⟩, ⟨a3, ga_app a4⟩, by rw [e]; exact a5, ⟨by rw [e]; exact a6, ga_app a7⟩, ⟨by rw [e]; exact a8, a9, ?_⟩, fun i w hw => ?_, fun i j v w hv hw => ?_⟩
  · refine c_pl_eq2 a10 (fun a k ha => ?_)
    obtain ⟨_, _, L, y3, y4, _, y6, _⟩ := a10
    have hL : ¬ ((0 : Nat) = 0 ∧ L = 120) := fun z => by omega
    rcases ha with ⟨z, _⟩ | z | z
    · rw [z]; exact e k
    · rw [z]; exact hf.2 _ k _ _ y3.2 (by decide) (by decide) hL (fun z => absurd z.1 (by decide))
    · rw [z]; exact hf.2 _ k _ _ y4.2 (by decide) (by decide) hL (fun z => absurd z.1 (by decide))
  · rw [e3]
    exact DXr_keep (a11 i w hw) hf
  · have er : ∀ (i : Nat) (w : Int × List (Int × Int)), R[i]? = some w → K (H (fu + 3) i) 0 = H (H (fu + 3) i) 0 := fun i w hw => hf.2 _ 0 _ _ (a11 i w hw).1.2 (by decide) (by decide) (by decide) (by decide)
    rw [e3, e3, er i v hv, er j w hw]
    exact a12 i j v w hv hw
end CDX
