/-- shapes: patterns, a RULE, a row, a FUNCTION -/
def zPT : Nat → e3_H → e3_G → Int → Prop
  | 0, _, _, p => p < 0
  | n + 1, H, G, p => p < 0 ∨ ((139 ≤ p ∧ g_at G p (110, 10)) ∧ zPT n H G (H p 8) ∧ zPT n H G (H p 7))
def zRU (a : Int) (H : e3_H) (G : e3_G) : Prop := (139 ≤ a ∧ g_at G a (109, 19)) ∧ ((0 ≤ H a 4 ∧ H a 4 ≤ 8) ∧ 139 ≤ H a 5 ∧ g_at G (H a 5) (1, 8)) ∧ (139 ≤ H a 8 ∧ g_at G (H a 8) (0, 2)) ∧ (139 ≤ H a 9 ∧ g_at G (H a 9) (0, 4)) ∧ (139 ≤ H a 10 ∧ g_at G (H a 10) (0, 4)) ∧ (139 ≤ H a 16 ∧ g_at G (H a 16) (0, 3)) ∧ ∃ n, zPT n H G (H a 2)
def zRW (R : Int) (H : e3_H) (G : e3_G) : Prop := (139 ≤ R ∧ g_at G R (111, 5)) ∧ zRU (H R 0) H G ∧ 139 ≤ H R 4 ∧ g_at G (H R 4) (0, 8)
def zTR (t : Int) (H : e3_H) (G : e3_G) : Prop := TRE t H G ∧ H t 0 ≤ 120 ∧ ∀ n : Int, 0 ≤ n → n < H t 0 → H (t + 4) n ≤ 1000
def zFU (fu : Int) (H : e3_H) (G : e3_G) : Prop := (139 ≤ fu ∧ g_at G fu (108, 11)) ∧ (H fu 1 ≤ 3 ∧ 139 ≤ H fu 2 ∧ g_at G (H fu 2) (0, 3)) ∧ (H fu 3 ≤ 16 ∧ 139 ≤ H fu 4 ∧ g_at G (H fu 4) (5, 16) ∧ ∀ k : Int, 0 ≤ k → k < H fu 3 → zRU (H (H fu 4) k) H G) ∧ (H fu 5 ≤ 40 ∧ 139 ≤ H fu 6 ∧ g_at G (H fu 6) (6, 40) ∧ ∀ i : Int, 0 ≤ i → i < H fu 5 → zRW (H (H fu 6) i) H G) ∧ (∃ L : Nat, H fu 7 ≤ L ∧ (L : Int) ≤ 1000000 ∧ (139 ≤ H fu 8 ∧ g_at G (H fu 8) (0, L)) ∧ (139 ≤ H fu 9 ∧ g_at G (H fu 9) (0, L))) ∧ zTR (H fu 10) H G
def zSX (H : e3_H) (G : e3_G) : Prop := H 14 3 ≤ 12 ∧ ∀ f : Int, 0 ≤ f → f < H 14 3 → zFU (H 15 f) H G
section ZSH
variable {H K : e3_H} {G : e3_G}
theorem zPT_eq (e : ∀ a k : Int, 139 ≤ a → K a k = H a k) : ∀ (n : Nat) (p : Int), zPT n H G p → zPT n K G p := by
  intro n
  induction n with
  | zero => intro p h; exact h
  | succ n ih =>
    intro p h
    rcases h with h | ⟨h1, h2, h3⟩
    · exact Or.inl h
    · exact Or.inr ⟨h1, by rw [e p 8 h1.1]; exact ih _ h2, by rw [e p 7 h1.1]; exact ih _ h3⟩
theorem zRU_eq {a : Int} (h : zRU a H G) (e : ∀ a k : Int, 139 ≤ a → K a k = H a k) : zRU a K G := by
  obtain ⟨h1, h2, h3, h4, h5, h6, n, h7⟩ := h
  unfold zRU
  rw [e a 4 h1.1, e a 5 h1.1, e a 8 h1.1, e a 9 h1.1, e a 10 h1.1, e a 16 h1.1, e a 2 h1.1]
  exact ⟨h1, h2, h3, h4, h5, h6, n, zPT_eq e n _ h7⟩
theorem zRW_eq {R : Int} (h : zRW R H G) (e : ∀ a k : Int, 139 ≤ a → K a k = H a k) : zRW R K G := by
  obtain ⟨h1, h2, h3⟩ := h
  unfold zRW
  rw [e R 0 h1.1, e R 4 h1.1]
  exact ⟨h1, zRU_eq h2 e, h3⟩
theorem zTR_eq {t : Int} (h : zTR t H G) (e : ∀ a k : Int, 139 ≤ a ∨ (17 ≤ a ∧ a ≤ 23) → K a k = H a k) : zTR t K G := by
  obtain ⟨h1, h2, h3⟩ := h
  have ht := h1.1
  refine ⟨TRE_k h1 ⟨[], (List.append_nil _).symm⟩ (fun x _ _ => e t x (by omega)), by rw [e t 0 (by omega)]; exact h2, fun n n0 n1 => ?_⟩
  rw [e t 0 (by omega)] at n1
  rw [e (t + 4) n (by omega)]
  exact h3 n n0 n1
theorem zFU_eq {fu : Int} (h : zFU fu H G) (e : ∀ a k : Int, 139 ≤ a ∨ (17 ≤ a ∧ a ≤ 23) → K a k = H a k) : zFU fu K G := by
  obtain ⟨h1, h2, ⟨h3, h4, h5, h6⟩, ⟨g3, g4, g5, g6⟩, h7, h8⟩ := h
  have e' : ∀ a k : Int, 139 ≤ a → K a k = H a k := fun a k ha => e a k (Or.inl ha)
  have ef : ∀ k : Int, K fu k = H fu k := fun k => e' fu k h1.1
  unfold zFU
  rw [ef 1, ef 2, ef 3, ef 4, ef 5, ef 6, ef 7, ef 8, ef 9, ef 10]
  exact ⟨h1, h2, ⟨h3, h4, h5, fun k k0 k1 => by rw [e' _ k h4]; exact zRU_eq (h6 k k0 k1) e'⟩, ⟨g3, g4, g5, fun i i0 i1 => by rw [e' _ i g4]; exact zRW_eq (g6 i i0 i1) e'⟩, h7, zTR_eq h8 e⟩
theorem zSX_eq (h : zSX H G) (e : ∀ a k : Int, 139 ≤ a ∨ (14 ≤ a ∧ a ≤ 23) → K a k = H a k) : zSX K G := by
  obtain ⟨h1, h2⟩ := h
  unfold zSX
  rw [e 14 3 (by decide)]
  exact ⟨h1, fun f f0 f1 => by rw [e 15 f (by decide)]; exact zFU_eq (h2 f f0 f1) (fun a k ha => e a k (by omega))⟩
theorem zFU_F {fu : Int} (h : zFU fu H G) (f : zF 34 39 H K) : zFU fu K G := zFU_eq h (fun a k ha => f a k (by omega))
theorem zRU_F {a : Int} (h : zRU a H G) (f : zF 34 39 H K) : zRU a K G := zRU_eq h (fun a k ha => f a k (by omega))
theorem zRW_F {a : Int} (h : zRW a H G) (f : zF 34 39 H K) : zRW a K G := zRW_eq h (fun a k ha => f a k (by omega))
theorem zTR_F {a : Int} (h : zTR a H G) (f : zF 34 39 H K) : zTR a K G := zTR_eq h (fun a k ha => f a k (by omega))
theorem zLX_F (h : zLX H) (f : zF 34 39 H K) : zLX K := zLX_eq h (fun a k h1 h2 => f a k (by omega))
theorem zKX_F (h : zKX H) (f : zF 34 39 H K) : zKX K := zKX_eq h (fun a k h1 h2 => f a k (by omega))
end ZSH
section ZFA
variable {Q : Int → e3_H → e3_G → Prop} {H : e3_H} {G : e3_G} {fu : Int}
theorem zR_functionAt (h : zSX H G) (l1 : Int) (h1 : 0 ≤ l1 ∧ l1 < H 14 3 → zFU (H 15 l1) H G → Q (H 15 l1) H G) (h0 : Q (-1) H G) : wR_functionAt Q l1 H G := by
  by_cases a : l1 < 0
  · exact brT a h0
  · refine brF a ?_
    by_cases b : l1 < H 14 3
    · have := h.1
      exact brT b ⟨by omega, h1 ⟨by omega, b⟩ (h.2 l1 (by omega) b)⟩
    · exact brF b h0
theorem zF_rowAt (h : zFU fu H G) (l1 : Int) (h1 : 0 ≤ l1 ∧ l1 < H fu 5 → zRW (H (H fu 6) l1) H G → Q (H (H fu 6) l1) H G) (h0 : Q (-1) H G) : wF_rowAt Q fu l1 H G := by
  obtain ⟨a1, _, _, ⟨g3, g4, g5, g6⟩, _⟩ := h
  by_cases a : l1 < 0
  · exact brT a h0
  · refine brF a ⟨ga_ob (c := 8) a1.2, ?_⟩
    by_cases b : l1 < H fu 5
    · exact brT b ⟨ga_ob (c := 8) a1.2, ga_oa g5 (by omega) (by omega), h1 ⟨by omega, b⟩ (g6 l1 (by omega) b)⟩
    · exact brF b h0
theorem zF_placeUp (h : zFU fu H G) (l1 : Int) (hQ : ∀ x, Q x H G) : wF_placeUp Q fu l1 H G := by
  obtain ⟨a1, _, _, _, ⟨L, b1, b2, b3, b4⟩, _⟩ := h
  by_cases a : l1 < 0
  · exact brT a (hQ _)
  · refine brF a ⟨ga_ob (c := 8) a1.2, ?_⟩
    by_cases b : l1 < H fu 7
    · exact brT b ⟨ga_ob (c := 8) a1.2, ga_oa b3.2 (by omega) (by omega), hQ _⟩
    · exact brF b (hQ _)
theorem zF_placeNumber (h : zFU fu H G) (l1 : Int) (hQ : ∀ x, Q x H G) : wF_placeNumber Q fu l1 H G := by
  obtain ⟨a1, _, _, _, ⟨L, b1, b2, b3, b4⟩, _⟩ := h
  by_cases a : l1 < 0
  · exact brT a (hQ _)
  · refine brF a ⟨ga_ob (c := 8) a1.2, ?_⟩
    by_cases b : l1 < H fu 7
    · exact brT b ⟨ga_ob (c := 8) a1.2, ga_oa b4.2 (by omega) (by omega), hQ _⟩
    · exact brF b (hQ _)
theorem zF_placeDepth (h : zFU fu H G) (l1 : Int) (hQ : ∀ x, Q x H G) : wF_placeDepth Q fu l1 H G := by
  obtain ⟨a1, _, _, _, ⟨L, b1, b2, b3, b4⟩, _⟩ := id h
  have key : ∀ (n : Nat) (l2 l3 : Int), 0 ≤ l2 → l2 + n = 1000000 → wF_placeDepth_8 Q (n + 1) fu l2 l3 H G := by
    intro n
    induction n with
    | zero =>
      intro l2 l3 g0 hn
      by_cases a : l3 < 0
      · exact brT a (hQ _)
      · exact brF a ⟨ga_ob (c := 8) a1.2, brF (by omega) (hQ _)⟩
    | succ n ih =>
      intro l2 l3 g0 hn
      by_cases a : l3 < 0
      · exact brT a (hQ _)
      · refine brF a ⟨ga_ob (c := 8) a1.2, ?_⟩
        by_cases b : l2 < H fu 7
        · refine brT b ⟨ga_ob (c := 8) a1.2, zF_placeUp h l3 (fun x => ?_)⟩
          rw [e3_w32_id (by omega) (by omega)]
          exact ih (l2 + 1) x (by omega) (by omega)
        · exact brF b (hQ _)
  exact ⟨ga_ob (c := 8) a1.2, zF_placeUp h l1 (fun x => ⟨1000001, key 1000000 0 x (by omega) (by omega)⟩)⟩
theorem zS_valueAt (hl : zLX H) (h : zFU fu H G) : ∀ (n : Nat) (Q : Int → e3_H → e3_G → Prop) (l2 l3 : Int), 0 ≤ l3 → 7 ≤ l3 + n → l3 ≤ 7 → (∀ x, Q x H G) → wS_valueAt (n + 1) fu l2 l3 H G Q := by
  have a1 := h.1
  intro n
  induction n with
  | zero =>
    intro Q l2 l3 g0 hn g7 hQ
    refine ⟨ga_ob (c := 8) a1.2, zF_placeNumber h l2 (fun x3 => ⟨ga_ob (c := 8) a1.2, zF_placeUp h l2 (fun x6 => ?_)⟩)⟩
    by_cases a : x3 < 0
    · exact brT a (hQ _)
    · exact brF a (brT (by omega) (hQ _))
  | succ n ih =>
    intro Q l2 l3 g0 hn g7 hQ
    refine ⟨ga_ob (c := 8) a1.2, zF_placeNumber h l2 (fun x3 => ⟨ga_ob (c := 8) a1.2, zF_placeUp h l2 (fun x6 => ?_)⟩)⟩
    by_cases a : x3 < 0
    · exact brT a (hQ _)
    · refine brF a ?_
      by_cases b : 6 < l3
      · exact brT b (hQ _)
      · refine brF b ?_
        by_cases c : x6 < 0
        · refine brT c ?_
          by_cases d : x3 < 3
          · exact brT d ⟨by omega, hQ _⟩
          · exact brF d (hQ _)
        · refine brF c ?_
          rw [e3_w32_id (by omega) (by omega)]
          exact ih _ x6 (l3 + 1) (by omega) (by omega) (by omega) (fun x => zL_part hl x x3 hQ)
theorem zS_labelAt (hl : zLX H) (h : zFU fu H G) (l2 : Int) (hQ : ∀ x, Q x H G) : wS_labelAt Q fu l2 H G := by
  have h26 := hl.1
  refine zS_valueAt hl h 8 _ l2 0 (by omega) (by omega) (by omega) (fun x => zL_has x (fun hx => brF (by decide) ⟨by omega, hQ _⟩) (brT rfl (hQ _)))
theorem zE_has {t : Int} (ht : g_at G t (105, 10)) (l1 : Int) (h1 : 0 ≤ l1 ∧ l1 < H t 0 → Q 1 H G) (h0 : Q 0 H G) : wE_has Q t l1 H G := by
  by_cases a : l1 < 0
  · exact brT a ⟨Or.inl rfl, h0⟩
  · refine brF a ⟨ga_ob (c := 5) ht, ?_⟩
    by_cases b : l1 < H t 0
    · exact brT b ⟨Or.inr rfl, h1 ⟨by omega, b⟩⟩
    · exact brF b ⟨Or.inl rfl, h0⟩
theorem zE_leads (l0 l1 l3 : Int) (hQ : ∀ x, (x = 0 ∨ x = 1) → Q x H G) : wE_leads Q l0 l1 l3 H G :=
  ⟨fun _ => ⟨fun _ => ⟨Or.inr rfl, hQ _ (Or.inr rfl)⟩, fun _ => ⟨fun _ => ⟨Or.inr rfl, hQ _ (Or.inr rfl)⟩, fun _ => ⟨Or.inl rfl, hQ _ (Or.inl rfl)⟩⟩⟩, fun _ => ⟨fun _ => ⟨Or.inl rfl, hQ _ (Or.inl rfl)⟩, fun _ => ⟨Or.inr rfl, hQ _ (Or.inr rfl)⟩⟩, fun _ => ⟨fun _ => ⟨Or.inr rfl, hQ _ (Or.inr rfl)⟩, fun _ => ⟨Or.inl rfl, hQ _ (Or.inl rfl)⟩⟩⟩
theorem zE_follow {t : Int} (h : zTR t H G) (l1 l2 : Int) (hl : 0 ≤ l1 ∧ l1 < H t 0) (hQ : ∀ x, Q x H G) : wE_follow Q t l1 l2 H G := by
  obtain ⟨⟨q, q0, ⟨p1, q1⟩, ⟨p2, q2⟩, ⟨p3, q3⟩, ⟨p4, q4⟩, ⟨p5, q5⟩, ⟨p6, q6⟩⟩, h2, h3⟩ := h
  have hc := h3 l1 hl.1 hl.2
  have key : ∀ (n : Nat) (l4 l5 : Int), 0 ≤ l5 → l5 + n = 1000 → wE_follow_8 Q (n + 1) t l1 l2 l4 l5 H G := by
    intro n
    induction n with
    | zero => intro l4 l5 g0 hn; exact ⟨ga_ob (c := 5) q0, by rw [p4]; exact ga_oa q4 (by omega) (by omega), brF (by rw [p4]; omega) (hQ _)⟩
    | succ n ih =>
      intro l4 l5 g0 hn
      refine ⟨ga_ob (c := 5) q0, by rw [p4]; exact ga_oa q4 (by omega) (by omega), ?_⟩
      by_cases a : l5 < H (H t 7) l1
      · refine brT a ⟨ga_ob (c := 5) q0, zE_has q0 l4 (fun hx => brF (by decide) ⟨ga_ob (c := 5) q0, by rw [p1]; exact ga_oa q1 (by omega) (by omega), ga_ob (c := 5) q0, by rw [p6]; exact ga_oa q6 (by omega) (by omega), zE_leads _ _ _ (fun x hx2 => ?_)⟩) (brT rfl (hQ _))⟩
        by_cases b : x = 0
        · refine brT b ⟨ga_ob (c := 5) q0, by rw [p5]; exact ga_oa q5 (by omega) (by omega), ?_⟩
          rw [e3_w32_id (x := l5 + 1) (by omega) (by omega)]
          exact ih _ (l5 + 1) (by omega) (by omega)
        · exact brF b (hQ _)
      · exact brF a (hQ _)
  exact ⟨1001, key 1000 _ 0 (by omega) (by omega)⟩
end ZFA
