/-- how codes of places go on, from lo to hi -/
def CL (σ g : e3_H) (lo hi : Int) : Prop := ∀ q : Int, lo ≤ q → q < hi → (σ 51 q = -4 ∨ (q < σ 51 q ∧ σ 51 q < hi ∧ g 1 (σ 51 q) = (if σ 46 q = 6 then g 1 q else 8 * g 1 q + 1) ∧ g 2 (σ 51 q) = (if σ 46 q = 6 then 0 else 1))) ∧ (σ 52 q = -4 ∨ (q < σ 52 q ∧ σ 52 q < hi ∧ g 1 (σ 52 q) = g 1 q + g 2 q ∧ g 2 (σ 52 q) = g 2 q))
section CODES2
variable {σ g : e3_H} {lo hi : Int}
theorem ach_in (hC : CL σ g lo hi) : ∀ (L : List Int) (a : Int), ach σ a L → (∀ c, c ∈ L → c ≠ -4) → (L ≠ [] → lo ≤ a ∧ a < hi) → ∀ c, c ∈ L → (lo ≤ c ∧ c < hi) ∧ g 2 c = g 2 a ∧ (g 2 a = 0 → g 1 c = g 1 a) := by
  intro L
  induction L with
  | nil => intro a _ _ _ c hc; exact absurd hc (List.not_mem_nil)
  | cons d l ih =>
    intro a h hn hr c hc
    have hz : a = d := h.1
    subst hz
    have ha := hr (List.cons_ne_nil _ _)
    rcases List.mem_cons.mp hc with z | z
    · rw [z]; exact ⟨ha, rfl, fun _ => rfl⟩
    · have hC2 := (hC a ha.1 ha.2).2
      have hl : l ≠ [] := fun e => by rw [e] at z; exact absurd z (List.not_mem_nil)
      have h52 : σ 52 a ≠ -4 := by
        cases l with
        | nil => exact absurd rfl hl
        | cons e l2 => rw [h.2.1]; exact hn e (List.mem_cons_of_mem _ (List.mem_cons_self ..))
      rcases hC2 with y | ⟨y1, y2, y3, y4⟩
      · exact absurd y h52
      · obtain ⟨i1, i2, i3⟩ := ih _ h.2 (fun y hy => hn y (List.mem_cons_of_mem _ hy)) (fun _ => ⟨by omega, y2⟩) c z
        refine ⟨i1, by rw [i2, y4], fun hg => ?_⟩
        rw [i3 (by rw [y4]; exact hg), y3, hg, Int.add_zero]
theorem lyC_g1 {R : Int → Int → Int → List (Int × Int) → Prop} (hC : CL σ g lo hi) (hR : ∀ c w x V, R c w x V → lo ≤ c → c < hi → g 1 c = x → ∀ p, p ∈ V → lo ≤ p.1 ∧ p.1 < hi ∧ g 1 p.1 = p.2) : ∀ (L : List Int) (w x a : Int) (V : List (Int × Int)), lyC R σ L w x V → ach σ a L → (∀ c, c ∈ L → c ≠ -4) → (L ≠ [] → lo ≤ a ∧ a < hi ∧ g 1 a = x ∧ g 2 a = 1) → ∀ p, p ∈ V → lo ≤ p.1 ∧ p.1 < hi ∧ g 1 p.1 = p.2 := by
  intro L
  induction L with
  | nil => intro w x a V h _ _ _ p hp; have h : V = [] := h; rw [h] at hp; exact absurd hp (List.not_mem_nil)
  | cons d l ih =>
    intro w x a V hv h hn hr p hp
    have hz : a = d := h.1
    subst hz
    obtain ⟨a1, a2, a3, a4⟩ := hr (List.cons_ne_nil _ _)
    obtain ⟨V1, V2, e, v1, v2⟩ := hv
    rw [e] at hp
    rcases List.mem_append.mp hp with z | z
    · exact hR _ _ _ _ v1 a1 a2 a3 p z
    · refine ih _ _ _ _ v2 h.2 (fun y hy => hn y (List.mem_cons_of_mem _ hy)) (fun hl => ?_) p z
      have h52 : σ 52 a ≠ -4 := by
        cases l with
        | nil => exact absurd rfl hl
        | cons e l2 => rw [h.2.1]; exact hn e (List.mem_cons_of_mem _ (List.mem_cons_self ..))
      rcases (hC a a1 a2).2 with y | ⟨y1, y2, y3, y4⟩
      · exact absurd y h52
      · exact ⟨by omega, y2, by rw [y3, a3, a4], by rw [y4, a4]⟩
theorem lyV_g1 (hC : CL σ g lo hi) : ∀ (k : Nat) (q w x : Int) (V : List (Int × Int)), lyV σ k q w x V → lo ≤ q → q < hi → g 1 q = x → ∀ p, p ∈ V → lo ≤ p.1 ∧ p.1 < hi ∧ g 1 p.1 = p.2 := by
  intro k
  induction k with
  | zero => intro q w x V h; exact h.elim
  | succ k ih =>
    intro q w x V h q1 q2 hx p hp
    obtain ⟨L, V1, ⟨a1, a2⟩, e, h⟩ := h
    rw [e] at hp
    have h51 : L ≠ [] → σ 51 q ≠ -4 := fun hl => by
      cases L with
      | nil => exact absurd rfl hl
      | cons e l2 => rw [a1.1]; exact a2 e (List.mem_cons_self ..)
    rcases List.mem_cons.mp hp with z | z
    · rw [z]; exact ⟨q1, q2, hx⟩
    · rcases h with ⟨h6, A, c, B, eA, _, _, v⟩ | ⟨h6, _, _, _, v⟩
      · have hm : c ∈ L := by rw [eA]; exact List.mem_append_right _ (List.mem_cons_self ..)
        have hl : L ≠ [] := fun y => by rw [y] at hm; exact absurd hm (List.not_mem_nil)
        rcases (hC q q1 q2).1 with y | ⟨y1, y2, y3, y4⟩
        · exact absurd y (h51 hl)
        · rw [if_pos h6] at y3 y4
          obtain ⟨i1, i2, i3⟩ := ach_in hC L _ a1 a2 (fun _ => ⟨by omega, y2⟩) c hm
          exact ih _ _ _ _ v i1.1 i1.2 (by rw [i3 y4, y3, hx]) p z
      · refine lyC_g1 hC (fun c w x V => ih c w x V) L w (8 * x + 1) _ V1 v a1 a2 (fun hl => ?_) p z
        rcases (hC q q1 q2).1 with y | ⟨y1, y2, y3, y4⟩
        · exact absurd y (h51 hl)
        · rw [if_neg h6] at y3 y4
          exact ⟨by omega, y2, by rw [y3, hx], y4⟩
/-- a tree lies where its codes lie -/
theorem wt_low {hi2 : Int} (hC : CL σ g lo hi) (h0 : 0 ≤ lo) : ∀ (k : Nat) (q : Int), wt σ k hi2 q → lo ≤ q → q < hi → wt σ k hi q := by
  intro k
  induction k with
  | zero => intro q h; exact h.elim
  | succ k ih =>
    intro q h q1 q2
    obtain ⟨L, h1, h2, h3⟩ := h
    have hn : ∀ c, c ∈ L → c ≠ -4 := fun c hc => by have := (h2 c hc).1; omega
    refine ⟨L, h1, fun c hc => ?_, h3⟩
    have hl : L ≠ [] := fun y => by rw [y] at hc; exact absurd hc (List.not_mem_nil)
    have h51 : σ 51 q ≠ -4 := by
      cases L with
      | nil => exact absurd rfl hl
      | cons e l2 => rw [h1.1]; exact hn e (List.mem_cons_self ..)
    rcases (hC q q1 q2).1 with y | ⟨y1, y2, _, _⟩
    · exact absurd y h51
    · obtain ⟨i1, _, _⟩ := ach_in hC L _ h1 hn (fun _ => ⟨by omega, y2⟩) c hc
      exact ⟨(h2 c hc).1, i1.2, ih c (h2 c hc).2.2 i1.1 i1.2⟩
theorem CL_of {r cnt : Int} {H : e3_H} {G : e3_G} (h : ∀ q : Int, lo ≤ q → q < hi → c_pt σ r g H G cnt hi q) : CL σ g lo hi := fun q h1 h2 => ⟨(h q h1 h2).2.2.1.2, (h q h1 h2).2.2.2.1.2⟩
end CODES2
/-- tests among the visited patterns -/
def tl (σ : e3_H) (V : List (Int × Int)) : List (Int × Int) := V.filter (fun p => decide (¬ (σ 46 p.1 = 0 ∨ σ 46 p.1 = 6)))
theorem tl_pos {σ : e3_H} {p : Int × Int} {l : List (Int × Int)} (h : ¬ (σ 46 p.1 = 0 ∨ σ 46 p.1 = 6)) : tl σ (p :: l) = p :: tl σ l := by
  unfold tl
  rw [List.filter_cons, if_pos (decide_eq_true h)]
theorem tl_neg {σ : e3_H} {p : Int × Int} {l : List (Int × Int)} (h : σ 46 p.1 = 0 ∨ σ 46 p.1 = 6) : tl σ (p :: l) = tl σ l := by
  unfold tl
  rw [List.filter_cons, if_neg (fun z => (of_decide_eq_true z) h)]
theorem tl_len {σ : e3_H} : ∀ V : List (Int × Int), tsn σ V = (tl σ V).length := by
  intro V
  induction V with
  | nil => rfl
  | cons p l ih =>
    show (if σ 46 p.1 = 0 ∨ σ 46 p.1 = 6 then 0 else 1) + tsn σ l = _
    by_cases hz : σ 46 p.1 = 0 ∨ σ 46 p.1 = 6
    · rw [if_pos hz, ih, tl_neg hz]
      omega
    · rw [if_neg hz, ih, tl_pos hz, List.length_cons]
      omega
theorem tl_mem {σ : e3_H} {V : List (Int × Int)} {p : Int × Int} : p ∈ tl σ V ↔ p ∈ V ∧ σ 46 p.1 ≠ 0 ∧ σ 46 p.1 ≠ 6 := by
  unfold tl
  rw [List.mem_filter]
  constructor
  · rintro ⟨h1, h2⟩
    have := of_decide_eq_true h2
    exact ⟨h1, fun z => this (Or.inl z), fun z => this (Or.inr z)⟩
  · rintro ⟨h1, h2, h3⟩
    exact ⟨h1, decide_eq_true (fun z => z.elim h2 h3)⟩
theorem tl_app {σ : e3_H} (V W : List (Int × Int)) : tl σ (V ++ W) = tl σ V ++ tl σ W := List.filter_append V W
theorem tl_PW {σ : e3_H} {V : List (Int × Int)} (h : PW σ V) : (tl σ V).Pairwise (fun a b => a.2 ≠ b.2) := by
  have h2 : (tl σ V).Pairwise (fun a b => σ 46 a.1 ≠ 6 → σ 46 b.1 ≠ 6 → a.2 ≠ b.2) := List.Pairwise.sublist List.filter_sublist h
  exact List.Pairwise.imp_of_mem (fun {a b} ha hb hr => hr (tl_mem.mp ha).2.2 (tl_mem.mp hb).2.2) h2
/-- no more tests than places -/
theorem tsn_le {σ g : e3_H} {V : List (Int × Int)} {pn : Int → Int} {cnt : Nat} (h : PW σ V) (hp : ∀ p, p ∈ V → (0 ≤ pn p.1 ∧ pn p.1 < cnt) ∧ g 3 (pn p.1) = p.2) : tsn σ V ≤ cnt := by
  rw [tl_len]
  have := pig cnt ((tl σ V).map (fun p => pn p.1)) (fun x hx => by
    obtain ⟨p, p1, p2⟩ := List.mem_map.mp hx
    rw [← p2]
    exact (hp p (tl_mem.mp p1).1).1) (List.pairwise_map.mpr (List.Pairwise.imp_of_mem (fun {a b} ha hb hr e => hr (by rw [← (hp a (tl_mem.mp ha).1).2, ← (hp b (tl_mem.mp hb).1).2, e])) (tl_PW h)))
  rw [List.length_map] at this
  omega
