/-- bytes of a text, and whether it is one: byte 7 first -/
def tB (x : Int) (i : Nat) : Int := e3_w32 (e3_land (e3_lushr x (8 * (i : Int))) 255)
def tS (b : Nat → Int) : Nat → Int × Int
  | 0 => (1, 0)
  | k + 1 => (if (tS b k).1 = 1 ∧ ((97 ≤ b (7 - k) ∧ b (7 - k) ≤ 122) ∨ (b (7 - k) = 0 ∧ (tS b k).2 = 0)) then 1 else 0, (tS b k).2 + (if b (7 - k) = 0 then 0 else 1))
theorem tS_rg (b : Nat → Int) : ∀ k : Nat, 0 ≤ (tS b k).2 ∧ (tS b k).2 ≤ k := by
  intro k
  induction k with
  | zero => exact ⟨Int.le_refl _, Int.le_refl _⟩
  | succ k ih =>
    show 0 ≤ (tS b k).2 + (if b (7 - k) = 0 then 0 else 1) ∧ (tS b k).2 + (if b (7 - k) = 0 then 0 else 1) ≤ _
    split <;> omega
theorem tS_01 (b : Nat → Int) : ∀ k : Nat, (tS b k).1 = 0 ∨ (tS b k).1 = 1 := by
  intro k
  cases k with
  | zero => exact Or.inr rfl
  | succ k =>
    show (if _ then (1 : Int) else 0) = 0 ∨ (if _ then (1 : Int) else 0) = 1
    split
    · exact Or.inr rfl
    · exact Or.inl rfl
theorem tS_st (b : Nat → Int) {k : Nat} (h : (tS b k).1 ≠ 1) : ∀ j : Nat, (tS b (k + j)).1 ≠ 1 := by
  intro j
  induction j with
  | zero => exact h
  | succ j ih =>
    show (if (tS b (k + j)).1 = 1 ∧ _ then (1 : Int) else 0) ≠ 1
    rw [if_neg (fun z => ih z.1)]
    decide
theorem tS_s (b : Nat → Int) (k : Nat) : (tS b (k + 1)).1 = (if (tS b k).1 = 1 ∧ ((97 ≤ b (7 - k) ∧ b (7 - k) ≤ 122) ∨ (b (7 - k) = 0 ∧ (tS b k).2 = 0)) then 1 else 0) := rfl
theorem tS_n (b : Nat → Int) (k : Nat) : (tS b (k + 1)).2 = (tS b k).2 + (if b (7 - k) = 0 then 0 else 1) := rfl
/-- what became of a VALUE that was to be put, in the class -/
def vO (l1 l2 l4 l5 : Int) (p : Int → Int) (H : e3_H) (x : Int) (K : e3_H) : Prop := (x = -3 ∧ ¬ (H 26 1 < 160 ∧ l4 ≤ 60) ∧ ∀ a k : Int, a ≠ 33 → K a k = H a k) ∨ (x = H 26 1 ∧ (H 26 1 < 160 ∧ l4 ≤ 60) ∧ ∃ tw : Int, vPt l1 l2 l4 l5 p tw H K ∧ vFl (e3_up K 32 (H 26 1) (H 32 (H 26 1))) (H 26 1) tw)
section VC2
variable {Q : Int → e3_H → e3_G → Prop} {H : e3_H} {G : e3_G}
theorem vPt_F {l1 l2 l4 l5 tw : Int} {p : Int → Int} {K : e3_H} (h : vPt l1 l2 l4 l5 p tw H K) : zF 26 33 H K := fun a k ha => h.1 a k (by omega)
theorem vL_put0 (hG : zGC G) (h : zLX H) (l1 l2 l4 l5 : Int) (h5 : 0 ≤ l5 ∧ l5 ≤ 4) (hp : ∀ k : Int, 0 ≤ k → k < l5 → 0 ≤ H 33 k ∧ H 33 k < 160) (hQ : ∀ x K, zF 26 33 H K → zLX K → vO l1 l2 l4 l5 (H 33) H x K → Q x K G) : wL_putSized Q l1 l2 l4 l5 H G := vL_putSized hG h l1 l2 l4 l5 h5 hp (fun z => hQ _ H (zF_rf H) h (Or.inl ⟨rfl, z, fun _ _ _ => rfl⟩)) (fun a b tw K p f z => hQ _ K (vPt_F p) z (Or.inr ⟨rfl, ⟨a, b⟩, tw, p, f⟩))
theorem vL_put (hG : zGC G) (h : zLX H) (l1 l2 : Int) (hQ : ∀ x K, zF 26 33 H K → zLX K → vO l1 l2 1 0 (H 33) H x K → Q x K G) : wL_put Q l1 l2 H G := vL_put0 hG h l1 l2 1 0 (by decide) (fun k k0 k1 => by omega) hQ
theorem vP_whole (hG : zGC G) (h : zLX H) (l1 : Int) (hQ : ∀ x K, zF 26 33 H K → zLX K → vO 0 l1 1 0 (H 33) H x K → Q x K G) : wP_whole Q l1 H G := vL_put hG h _ _ hQ
theorem vP_nothing (hG : zGC G) (h : zLX H) (hQ : ∀ x K, zF 26 33 H K → zLX K → vO 3 (-1) 1 0 (H 33) H x K → Q x K G) : wP_nothing Q H G := vL_put hG h _ _ hQ
theorem vP_truth (hG : zGC G) (h : zLX H) (l1 : Int) (hQ : ∀ x K, zF 26 33 H K → zLX K → vO 1 (if l1 = 0 then 0 else 1) 1 0 (H 33) H x K → Q x K G) : wP_truth Q l1 H G := by
  by_cases a : l1 = 0
  · rw [if_pos a] at hQ
    exact brT a (vL_put hG h _ _ hQ)
  · rw [if_neg a] at hQ
    exact brF a (vL_put hG h _ _ hQ)
theorem vL_isText (l0 : Int) (h1 : (tS (tB l0) 8).1 = 1 → Q 1 H G) (h0 : (tS (tB l0) 8).1 ≠ 1 → Q 0 H G) : wL_isText Q l0 H G := by
  have key : ∀ (n : Nat) (l2 l3 : Int), l3 = 8 * (n : Int) - 8 → n ≤ 8 → (tS (tB l0) (8 - n)).1 = 1 → l2 = (if (tS (tB l0) (8 - n)).2 = 0 then 0 else 1) → wL_isText_5 Q (n + 1) l0 l2 l3 H G := by
    intro n
    induction n with
    | zero => intro l2 l3 h3 _ hs _; exact brT (by omega) (h1 hs)
    | succ n ih =>
      intro l2 l3 h3 hn hs h2
      have e8 : 8 - n = 8 - (n + 1) + 1 := by omega
      have e7 : 7 - (8 - (n + 1)) = n := by omega
      have eb : e3_w32 (e3_land (e3_lushr l0 l3) 255) = tB l0 n := by unfold tB; rw [show l3 = 8 * (n : Int) by omega]
      have s1 := tS_s (tB l0) (8 - (n + 1))
      have s2 := tS_n (tB l0) (8 - (n + 1))
      have rg := tS_rg (tB l0) (8 - (n + 1))
      rw [← e8, e7] at s1 s2
      refine brF (by omega) ?_
      rw [eb]
      clear eb
      generalize tB l0 n = c at s1 s2 ⊢
      have bad : (tS (tB l0) (8 - n)).1 ≠ 1 → Q 0 H G := fun z => h0 (by
        have := tS_st (tB l0) z n
        rw [show 8 - n + n = 8 by omega] at this
        exact this)
      have nx : ∀ s0 : Int, (tS (tB l0) (8 - n)).1 = 1 → s0 = (if (tS (tB l0) (8 - n)).2 = 0 then 0 else 1) → wL_isText_54 Q (fun l0 l2 l3 H G => wL_isText_5 Q (n + 1) l0 l2 l3 H G) l0 s0 l3 H G := fun s0 g1 g2 => by
        show wL_isText_5 Q (n + 1) l0 s0 (e3_w32 (l3 + (-8))) H G
        rw [e3_w32_id (by omega) (by omega)]
        exact ih s0 _ (by omega) (by omega) g1 g2
      have n28 : (c = 0 → (tS (tB l0) (8 - (n + 1))).2 ≠ 0) → wL_isText_28 Q (fun l0 l2 l3 H G => wL_isText_5 Q (n + 1) l0 l2 l3 H G) l0 l3 c H G := fun hc => by
        refine brF (by decide) ?_
        by_cases b : c < 97
        · refine brT b (bad ?_)
          rw [s1, if_neg (fun z => by
            rcases z.2 with y | y
            · omega
            · exact hc y.1 y.2)]
          decide
        · refine brF b ?_
          by_cases d : 122 < c
          · refine brT d (bad ?_)
            rw [s1, if_neg (fun z => by
              rcases z.2 with y | y
              · omega
              · exact hc y.1 y.2)]
            decide
          · refine brF d (nx 1 ?_ ?_)
            · rw [s1, if_pos ⟨hs, Or.inl ⟨by omega, by omega⟩⟩]
            · rw [s2, if_neg (show ¬ c = 0 by omega), if_neg (by omega)]
      by_cases a : l2 = 0
      · have cnt : (tS (tB l0) (8 - (n + 1))).2 = 0 := by
          by_cases z : (tS (tB l0) (8 - (n + 1))).2 = 0
          · exact z
          · rw [if_neg z] at h2; omega
        refine brT a ?_
        by_cases b : c = 0
        · refine brT b (brT rfl (nx 0 ?_ ?_))
          · rw [s1, if_pos ⟨hs, Or.inr ⟨b, cnt⟩⟩]
          · rw [s2, if_pos b, cnt, if_pos (by omega)]
        · exact brF b (n28 (fun z => absurd z b))
      · refine brF a (n28 (fun _ z => ?_))
        rw [if_pos z] at h2
        exact a h2
  exact ⟨9, key 8 0 56 (by omega) (by omega) rfl rfl⟩
theorem vP_letters (hG : zGC G) (h : zLX H) (l1 : Int) (hbad : (tS (tB l1) 8).1 ≠ 1 → Q (-1) H G) (hQ : (tS (tB l1) 8).1 = 1 → ∀ x K, zF 26 33 H K → zLX K → vO 2 l1 1 0 (H 33) H x K → Q x K G) : wP_letters Q l1 H G := by
  refine vL_isText l1 (fun z => ?_) (fun z => ?_)
  · exact brF (by decide) (vL_put hG h _ _ (hQ z))
  · exact brT rfl (hbad z)
end VC2
