/-- the number of a NAME in a rule of the class -/
theorem cU_nameNumber2 {Q : Int → e3_H → e3_G → Prop} {a c v : Int} {N : Int → Int} {H : e3_H} {G : e3_G} (ga : g_at G a (109, 19)) (h5 : H a 5 = a + 1) (a1 : 139 ≤ a) (g5 : g_at G (a + 1) (1, 8)) (h4 : H a 4 = c) (hc : 0 ≤ c ∧ c ≤ 8) (hN : ∀ k : Nat, (k : Int) < c → H (a + 1) k = N k)
    (hno : (∀ k : Nat, (k : Int) < c → N k ≠ v) → Q (-1) H G) (hyes : ∀ k : Nat, (k : Int) < c → N k = v → (∀ l : Nat, l < k → N l ≠ v) → Q k H G) : wU_nameNumber Q a v H G := by
  have ob := ga_ob (c := 9) ga
  have key : ∀ (f j : Nat), (j + f : Int) = c → (∀ l : Nat, l < j → N l ≠ v) → wU_nameNumber_2 Q (f + 1) a v j H G := by
    intro f
    induction f with
    | zero =>
      intro j hj hne
      exact ⟨ob, brF (by rw [h4]; omega) (hno (fun k hk => hne k (by omega)))⟩
    | succ f ih =>
      intro j hj hne
      refine ⟨ob, brT (by rw [h4]; omega) ⟨ob, ?_⟩⟩
      rw [h5]
      refine ⟨ga_oa g5 (by omega) (by omega), ?_⟩
      rw [hN j (by omega)]
      refine ⟨fun he => hyes j (by omega) he hne, fun he => ?_⟩
      rw [w_p1 (by omega)]
      refine ih (j + 1) (by omega) (fun l hl => ?_)
      by_cases hz : l = j
      · rw [hz]; exact he
      · exact hne l (by omega)
  exact ⟨c.toNat + 1, key c.toNat 0 (by omega) (fun l hl => by omega)⟩
/-- a pattern's NAME, by its number: found again -/
theorem cU_nn {Q : Int → e3_H → e3_G → Prop} {σ H : e3_H} {G : e3_G} {a r k : Int} (ga : g_at G a (109, 19)) (h5 : H a 5 = a + 1) (a1 : 139 ≤ a) (g5 : g_at G (a + 1) (1, 8)) (h4 : H a 4 = σ 56 r) (hc : 0 ≤ σ 56 r ∧ σ 56 r ≤ 8) (hN : ∀ k : Nat, (k : Int) < σ 56 r → H (a + 1) k = σ 57 (8 * r + k)) (hds : a_ds (fun k => σ 57 (8 * r + k)) (σ 56 r).toNat) (hnz : nz r σ) (hk : k = -4 ∨ (0 ≤ k ∧ k < σ 56 r)) (hQ : Q (if k = -4 then -1 else k) H G) : wU_nameNumber Q a (c_nam σ r k) H G := by
  refine cU_nameNumber2 (N := fun k => σ 57 (8 * r + k)) ga h5 a1 g5 h4 hc hN (fun hne => ?_) (fun j hj he hl => ?_)
  · rcases hk with hz | hz
    · rw [if_pos hz] at hQ; exact hQ
    · exfalso
      refine hne k.toNat (by omega) ?_
      unfold c_nam
      rw [if_neg (by omega), Int.toNat_of_nonneg hz.1]
  · have he : σ 57 (8 * r + (j : Int)) = c_nam σ r k := he
    unfold c_nam at he
    rcases hk with hz | hz
    · rw [if_pos hz] at he
      exact absurd he (hnz j (by omega) hj)
    · rw [if_neg (by omega)] at he
      have ek : (k.toNat : Int) = k := Int.toNat_of_nonneg hz.1
      have := hds j k.toNat (by omega) (by omega) (by show σ 57 (8 * r + (j : Int)) = σ 57 (8 * r + (k.toNat : Int)); rw [ek]; exact he)
      rw [if_neg (by omega)] at hQ
      have e : (j : Int) = k := by omega
      rw [e]
      exact hQ
