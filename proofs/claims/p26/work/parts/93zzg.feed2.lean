section FEED2
variable {Q : Int → e3_H → e3_G → Prop} {G : e3_G} {x l3 : Int} {n : Nat} {H : e3_H}
theorem cP_feed (hn : H 3 1 = (n : Int)) (hn2 : n ≤ 1600) (hbad : ¬ (1 ≤ l3 ∧ l3 ≤ 8) → Q (-1) H G) (hfull : 1 ≤ l3 → l3 ≤ 8 → 1600 < (n : Int) + l3 → Q (-3) H G) (hok : ∀ i : Nat, l3 = (i : Int) → 1 ≤ i → i ≤ 8 → n + i ≤ 1600 → ∀ K2 : e3_H, K2 3 1 = ((n + i : Nat) : Int) → (∀ j : Nat, j < i → K2 4 ((n + j : Nat) : Int) = bcl x (i - 1 - j)) → (∀ a k : Int, ¬ (a = 3 ∧ k = 1) → ¬ (a = 4 ∧ (n : Int) ≤ k ∧ k < n + i) → K2 a k = H a k) → Q ((n + i : Nat) : Int) K2 G) : wP_feed Q x l3 H G := by
  by_cases a : l3 < 1
  · exact brT a (hbad (by omega))
  refine brF a ?_
  by_cases b : 8 < l3
  · exact brT b (hbad (by omega))
  refine brF b ?_
  unfold wT_append
  rw [hn, e3_w32_id (x := (n : Int) + l3) (by omega) (by omega), e3_w32_id (x := l3 - 1) (by omega) (by omega)]
  by_cases c : 1600 < (n : Int) + l3
  · exact brT c (brT rfl (hfull (by omega) (by omega) c))
  refine brF c ⟨l3.toNat + 1, ?_⟩
  have e : l3 = ((l3.toNat : Nat) : Int) := by omega
  have := zT_19 (x := x) (G := G) (Q := fun x3 H1 G2 => (((x3 : Int) = 0 → (wP_feed_37 Q (-3) H1 G2)) ∧ (¬ ((x3 : Int) = 0) → (wP_feed_37 Q (H1 3 1) H1 G2)))) l3.toNat n H hn (by omega) (by omega) (fun K2 k1 k2 k3 => brF (by decide) ?_)
  · rw [← e] at this; exact this
  · show Q (K2 3 1) K2 G
    rw [k1]
    exact hok l3.toNat e (by omega) (by omega) (by omega) K2 k1 k2 k3
theorem cM_feed (hn : H 40 1 = (n : Int)) (hn2 : n ≤ 1600) (hbad : ¬ (1 ≤ l3 ∧ l3 ≤ 8) → Q (-1) H G) (hfull : 1 ≤ l3 → l3 ≤ 8 → 1600 < (n : Int) + l3 → Q (-3) H G) (hok : ∀ i : Nat, l3 = (i : Int) → 1 ≤ i → i ≤ 8 → n + i ≤ 1600 → ∀ K2 : e3_H, K2 40 1 = ((n + i : Nat) : Int) → (∀ j : Nat, j < i → K2 41 ((n + j : Nat) : Int) = brf x (i - 1 - j)) → (∀ a k : Int, ¬ (a = 40 ∧ k = 1) → ¬ (a = 41 ∧ (n : Int) ≤ k ∧ k < n + i) → K2 a k = H a k) → Q ((n + i : Nat) : Int) K2 G) : wM_feed Q x l3 H G := by
  refine cM_in (fun a b => brF (by decide) ?_) (fun h => brT rfl (hbad h))
  rw [hn, e3_w32_id (x := (n : Int) + l3) (by omega) (by omega), e3_w32_id (x := l3 - 1) (by omega) (by omega)]
  by_cases c : 1600 < (n : Int) + l3
  · exact brT c (hfull a b c)
  refine brF c ⟨l3.toNat + 1, ?_⟩
  have e : l3 = ((l3.toNat : Nat) : Int) := by omega
  have := zM_34 (x := x) (G := G) (Q := Q) l3.toNat n H hn (by omega) (by omega) (fun K2 k1 k2 k3 => hok l3.toNat e (by omega) (by omega) (by omega) K2 k1 k2 k3)
  rw [← e] at this
  exact this
/-- the tapes stay alike -/
theorem bt_feed {b t b2 t2 : Int → Int} {i : Nat} (h : x_bt b t n) (hi : i ≤ 8) (hb : ∀ k : Int, ¬ ((n : Int) ≤ k ∧ k < n + i) → b2 k = b k) (ht : ∀ k : Int, ¬ ((n : Int) ≤ k ∧ k < n + i) → t2 k = t k) (nb : ∀ j : Nat, j < i → b2 ((n + j : Nat) : Int) = bcl x (i - 1 - j)) (nt : ∀ j : Nat, j < i → t2 ((n + j : Nat) : Int) = brf x (i - 1 - j)) : x_bt b2 t2 (n + i) := by
  intro k hk
  by_cases z : k < n
  · rw [hb k (by omega), ht k (by omega)]
    exact h k z
  · obtain ⟨j, rfl⟩ : ∃ j, k = n + j := ⟨k - n, by omega⟩
    rw [nb j (by omega), nt j (by omega)]
    exact x_byte (by omega)
end FEED2
