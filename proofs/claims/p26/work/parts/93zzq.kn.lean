/-- KINDS of both, whether there is a text or not -/
theorem JI_kd {n : Nat} {H : e3_H} {G : e3_G} (h : JI n H G) : ∃ (σ : e3_H) (m : Nat), c_kd σ m H ∧ k_inv σ m ∧ (∀ a k : Int, 42 ≤ a → a ≤ 45 → H a k = σ a k) ∧ H 40 10 = (m : Int) := by
  obtain ⟨_, _, _, _, hT⟩ := h
  rcases hT with ⟨_, _, _, h8, h10, _⟩ | ⟨_, _, σ, g, m, nf, Vs, mr0, way, km, N, p1, p2, p3, p4, p5, p6⟩
  · exact ⟨H, 0, ⟨h8, fun k hk => absurd hk (Nat.not_lt_zero _)⟩, ⟨h10, by decide, fun i j hi => absurd hi (Nat.not_lt_zero _), fun j hj => absurd hj (Nat.not_lt_zero _), fun k hk => absurd hk (Nat.not_lt_zero _)⟩, fun _ _ _ _ => rfl, h10⟩
  · exact ⟨σ, m, p2.2.1, p1.1.2.2.2.2.1, fun a k a1 a2 => p5.1 a k a1 (by omega) (by omega), p5.2.1.1⟩
section JKN
variable {n : Nat} {H : e3_H} {G : e3_G} {R : Int → Int → e3_H → e3_G → Prop} {W : Int → e3_H → e3_G → Prop}
/-- kindNamed, in both, with equal answers -/
theorem j_kindNamed_e {l1 : Int} (h : JI n H G) (hR : JRe n H G R) (hW : JW H R (fun Q H G => wM_kindNamed Q l1 H G) W) : wP_kindNamed W l1 H G := by
  obtain ⟨σ, m, hd, hk, ht, h10⟩ := JI_kd h
  have e42 : H 42 = σ 42 := funext fun k => ht 42 k (by decide) (by decide)
  have fin : ∀ x, x = a_fd (σ 42) l1 m → W x H G := fun x e => hW x H G (fun _ => rfl) (cM_kindOf h10 hk.2.1 (by rw [e42, ← e]; exact hR x n H G h (by omega) (fun _ => rfl)))
  refine cK_fnd hd hk ?_
  rcases a_fd_rg (σ 42) l1 m with z | ⟨z, _, _⟩
  · rw [z, if_pos (by decide)]
    exact brT (by decide) (fin _ z.symm)
  · rw [if_neg (by omega)]
    exact brF (by omega) (fin _ rfl)
end JKN
