/-- a text that both hold -/
def JT (σ g : e3_H) (m nf : Nat) (Vs : Int → Int → Int → List (Int × Int)) (mr0 : Nat → Nat) (way km : Nat → Int) (N : Nat → List a_ND) (H : e3_H) (G : e3_G) : Prop := PXc σ m nf Vs mr0 ∧ TX σ g m nf Vs way km N H G ∧ (∀ f : Nat, f < nf → NCt (N f)) ∧ C8 nf H ∧ TM0 σ m nf H ∧ TRS σ nf Vs mr0 way km N H
/-- both programs between two calls -/
def JI (n : Nat) (H : e3_H) (G : e3_G) : Prop := (MKR H G ∧ zGC G) ∧ ((H 3 1 = (n : Int) ∧ H 40 1 = (n : Int)) ∧ n ≤ 1600 ∧ x_bt (H 4) (H 41) n) ∧ (zLX H ∧ zSO H) ∧ (zMV H ∧ zMH H) ∧ ((H 2 6 = 0 ∧ H 40 9 = 0 ∧ H 14 3 = 0 ∧ H 8 0 = 0 ∧ H 40 10 = 0 ∧ H 40 41 = 0) ∨ (H 2 6 = 1 ∧ H 40 9 = 1 ∧ ∃ (σ g : e3_H) (m nf : Nat) (Vs : Int → Int → Int → List (Int × Int)) (mr0 : Nat → Nat) (way km : Nat → Int) (N : Nat → List a_ND), JT σ g m nf Vs mr0 way km N H G))
section JIX
variable {n : Nat} {H : e3_H} {G : e3_G}
theorem JI_K (h : JI n H G) : zKX H ∧ zMK H ∧ zSX H G := by
  obtain ⟨_, _, _, _, hT⟩ := h
  rcases hT with ⟨_, _, h3, h8, h10, h41⟩ | ⟨_, _, σ, g, m, nf, Vs, mr0, way, km, N, p1, p2, p3, p4, p5, p6⟩
  · refine ⟨⟨by omega, fun k k0 k1 => by omega⟩, ⟨0, by decide, h10, fun k hk => absurd hk (Nat.not_lt_zero _), fun k k0 k1 => by omega⟩, ⟨by omega, fun f f0 f1 => by omega⟩⟩
  · exact ⟨zKX_of p2.2.1 p1.1.2.2.2.2.1, zMK_of p1 p5, zSX_of p2 p1.1.2.1 p3⟩
theorem JI_T (h : JI n H G) : ∃ nf : Nat, zMT nf H := by
  obtain ⟨_, _, _, _, hT⟩ := h
  rcases hT with ⟨_, _, h3, h8, h10, h41⟩ | ⟨_, _, σ, g, m, nf, Vs, mr0, way, km, N, p1, p2, p3, p4, p5, p6⟩
  · exact ⟨0, by decide, h41, fun f hf => absurd hf (Nat.not_lt_zero _), fun f hf => absurd hf (Nat.not_lt_zero _)⟩
  · exact ⟨nf, zMT_of p1 p5 p6.1⟩
end JIX
