/-- bytes of a fed word, in class and reference -/
def bcl (x : Int) (i : Nat) : Int := e3_b (e3_b (e3_w32 (e3_lushr x (e3_w32 (8 * (i : Int))))))
def brf (x : Int) (i : Nat) : Int := e3_w32 (e3_land (e3_lshr x (e3_w32 (8 * (i : Int)))) 255)
section FEED
variable {Q : Int → e3_H → e3_G → Prop} {G : e3_G} {x : Int}
theorem zT_19 : ∀ (i n : Nat) (K : e3_H), K 3 1 = (n : Int) → n + i ≤ 1600 → i ≤ 8 → (∀ K2 : e3_H, K2 3 1 = ((n + i : Nat) : Int) → (∀ j : Nat, j < i → K2 4 ((n + j : Nat) : Int) = bcl x (i - 1 - j)) → (∀ a k : Int, ¬ (a = 3 ∧ k = 1) → ¬ (a = 4 ∧ (n : Int) ≤ k ∧ k < n + i) → K2 a k = K a k) → Q 1 K2 G) → wT_append_19 Q (i + 1) x ((i : Int) - 1) K G := by
  intro i
  induction i with
  | zero =>
    intro n K hn _ _ hQ
    exact brT (by decide) (hQ K hn (fun j hj => absurd hj (Nat.not_lt_zero _)) (fun _ _ _ _ => rfl))
  | succ i ih =>
    intro n K hn hl h8 hQ
    rw [show ((i + 1 : Nat) : Int) - 1 = i by omega]
    refine brF (by omega) ⟨by omega, fun H1 e1 H3 e3 => ?_⟩
    rw [hn] at e1
    have f1 : H1 3 1 = (n : Int) := by rw [e1, e3_up_ne (ne_1 (by decide))]; exact hn
    rw [f1, e3_w32_id (by omega) (by omega)] at e3
    rw [e3_w32_id (by omega) (by omega), show (i : Int) + -1 = i - 1 by omega]
    refine ih (n + 1) H3 (by rw [e3, e3_up_self]; omega) (by omega) (by omega) (fun K2 k1 k2 k3 => hQ K2 (by rw [k1]; omega) (fun j hj => ?_) (fun a k h1 h2 => ?_))
    · by_cases z : j = 0
      · subst z
        rw [k3 4 _ (by omega) (by omega), e3, e3_up_ne (ne_1 (by decide)), e1]
        exact e3_up_self ..
      · have := k2 (j - 1) (by omega)
        rw [show n + 1 + (j - 1) = n + j by omega] at this
        rw [this, show i - 1 - (j - 1) = i + 1 - 1 - j by omega]
    · rw [k3 a k h1 (by omega), e3, e3_up_ne h1, e1, e3_up_ne (by omega)]
theorem zM_34 : ∀ (i n : Nat) (K : e3_H), K 40 1 = (n : Int) → n + i ≤ 1600 → i ≤ 8 → (∀ K2 : e3_H, K2 40 1 = ((n + i : Nat) : Int) → (∀ j : Nat, j < i → K2 41 ((n + j : Nat) : Int) = brf x (i - 1 - j)) → (∀ a k : Int, ¬ (a = 40 ∧ k = 1) → ¬ (a = 41 ∧ (n : Int) ≤ k ∧ k < n + i) → K2 a k = K a k) → Q ((n + i : Nat) : Int) K2 G) → wM_feed_34 Q (i + 1) x ((i : Int) - 1) K G := by
  intro i
  induction i with
  | zero =>
    intro n K hn _ _ hQ
    refine brT (by decide) ?_
    rw [hn]
    exact hQ K hn (fun j hj => absurd hj (Nat.not_lt_zero _)) (fun _ _ _ _ => rfl)
  | succ i ih =>
    intro n K hn hl h8 hQ
    rw [show ((i + 1 : Nat) : Int) - 1 = i by omega]
    refine brF (by omega) ⟨by omega, fun H1 e1 H3 e3 => ?_⟩
    rw [hn] at e1
    have f1 : H1 40 1 = (n : Int) := by rw [e1, e3_up_ne (ne_1 (by decide))]; exact hn
    rw [f1, e3_w32_id (by omega) (by omega)] at e3
    rw [e3_w32_id (by omega) (by omega), show (i : Int) + -1 = i - 1 by omega]
    have hQ' : ∀ K2 : e3_H, K2 40 1 = ((n + 1 + i : Nat) : Int) → (∀ j : Nat, j < i → K2 41 ((n + 1 + j : Nat) : Int) = brf x (i - 1 - j)) → (∀ a k : Int, ¬ (a = 40 ∧ k = 1) → ¬ (a = 41 ∧ ((n + 1 : Nat) : Int) ≤ k ∧ k < ((n + 1 : Nat) : Int) + i) → K2 a k = H3 a k) → Q ((n + 1 + i : Nat) : Int) K2 G := fun K2 k1 k2 k3 => by
      have := hQ K2 (by rw [k1]; omega) (fun j hj => ?_) (fun a k h1 h2 => ?_)
      · rw [show n + 1 + i = n + (i + 1) by omega]; exact this
      · by_cases z : j = 0
        · subst z
          rw [k3 41 _ (by omega) (by omega), e3, e3_up_ne (ne_1 (by decide)), e1]
          exact e3_up_self ..
        · have := k2 (j - 1) (by omega)
          rw [show n + 1 + (j - 1) = n + j by omega] at this
          rw [this, show i - 1 - (j - 1) = i + 1 - 1 - j by omega]
      · rw [k3 a k h1 (by omega), e3, e3_up_ne h1, e1, e3_up_ne (by omega)]
    exact ih (n + 1) H3 (by rw [e3, e3_up_self]; omega) (by omega) (by omega) hQ'
end FEED
