section ZMK2
variable {Q : Int → e3_H → e3_G → Prop} {σ H : e3_H} {G : e3_G} {nf m : Nat} {Vs : Int → Int → Int → List (Int × Int)} {mr0 : Nat → Nat}
theorem zM_missing {l1 : Int} (hP : PXc σ m nf Vs mr0) (hT : TM0 σ m nf H) (hQ : ∀ x K, mv 12 H K → Q x K G) (hQ0 : ∀ x, Q x H G) : wM_missing Q l1 H G := by
  obtain ⟨p1, ⟨p2, p3⟩, p4, p5, p6, p7, p8⟩ := hP
  obtain ⟨t1, ⟨t2, _⟩, t3⟩ := hT
  have h12 := p1.2.1
  refine cM_in (fun a b => ⟨Or.inr rfl, brF (by decide) ?_⟩) (fun _ => ⟨Or.inl rfl, brT rfl (hQ0 _)⟩)
  rw [t3, e3_w32_id (by omega) (by omega)] at b
  have hf : l1.toNat < nf := by omega
  have ef : ((l1.toNat : Nat) : Int) = l1 := by omega
  obtain ⟨q1, q2⟩ := p8 l1.toNat hf
  have hF := SFT_of (un := true) p1 p2 p5 p6 hf p7 q2
  obtain ⟨k, N, hg⟩ := gr_ex (σ := σ) (m := m) (R := rwl σ (rls σ (l1.toNat : Nat) (Vs (l1.toNat : Nat)) true (mr0 l1.toNat))) (way := 0) _ [] (Nat.le_refl _)
  have := cM_makes (Q := fun x6 H4 G5 => (((x6 : Int) = 0 → Q (-3) H4 G5) ∧ (¬ ((x6 : Int) = 0) → (∃ n, wM_missing_29 Q n 0 0 H4 G5)))) (G := G) (slot := 12) (l4 := 1) (f := (l1.toNat : Nat)) q2 (Or.inl ⟨rfl, by decide⟩) t1 t2 hF (W4_of q2) (by decide) (by decide) hg (fun hn K D w1 w2 w3 w4 w5 w6 w7 => brF (by decide) ?_) (fun hn K w1 => brT rfl (hQ _ K w1))
  · rw [ef] at this
    exact this
  · have key : ∀ (d : Nat) (l2 l3 : Int), 0 ≤ l3 → l3 + d = 120 → wM_missing_29 Q (d + 1) l2 l3 K G := by
      intro d
      induction d with
      | zero => intro l2 l3 h0 hd; exact brF (by rw [w3]; omega) ⟨fun _ => hQ _ K w1, fun _ => hQ _ K w1⟩
      | succ d ih =>
        intro l2 l3 h0 hd
        have nx : ∀ s0, wM_missing_62 Q (fun l2 l3 H G => wM_missing_29 Q (d + 1) l2 l3 H G) l3 s0 K G := fun s0 => by
          show wM_missing_29 Q (d + 1) s0 (e3_w32 (l3 + 1)) K G
          rw [e3_w32_id (by omega) (by omega)]
          exact ih s0 (l3 + 1) (by omega) (by omega)
        refine ⟨fun _ => ⟨fun _ => ?_, fun _ => nx _⟩, fun _ => ⟨fun _ => hQ _ K w1, fun _ => hQ _ K w1⟩⟩
        rw [e3_w32_id (by omega) (by omega)]
        exact ⟨by omega, fun _ => nx _, fun _ => nx _⟩
    exact ⟨121, key 120 0 0 (by omega) (by omega)⟩
theorem zM_unreached {l1 l2 : Int} (hP : PXc σ m nf Vs mr0) (hT : TM0 σ m nf H) (hQ : ∀ x K, mv 12 H K → Q x K G) (hQ0 : ∀ x, Q x H G) : wM_unreached Q l1 l2 H G := by
  obtain ⟨p1, ⟨p2, p3⟩, p4, p5, p6, p7, p8⟩ := hP
  obtain ⟨t1, ⟨t2, _⟩, t3⟩ := hT
  have h12 := p1.2.1
  refine cM_in (fun a b => ⟨Or.inr rfl, brF (by decide) ?_⟩) (fun _ => ⟨Or.inl rfl, brT rfl (hQ0 _)⟩)
  rw [t3, e3_w32_id (by omega) (by omega)] at b
  have hf : l1.toNat < nf := by omega
  have ef : ((l1.toNat : Nat) : Int) = l1 := by omega
  obtain ⟨q1, q2⟩ := p8 l1.toNat hf
  refine ⟨by omega, cM_in (fun c d => brF (by decide) ?_) (fun _ => brT rfl (hQ0 _))⟩
  have hF := SFT_of (un := false) p1 p2 p5 p6 hf p7 q2
  obtain ⟨k, N, hg⟩ := gr_ex (σ := σ) (m := m) (R := rwl σ (rls σ (l1.toNat : Nat) (Vs (l1.toNat : Nat)) false (mr0 l1.toNat))) (way := 0) _ [] (Nat.le_refl _)
  have := cM_makes (Q := fun x10 H8 G9 => (((x10 : Int) = 0 → Q (-3) H8 G9) ∧ (¬ ((x10 : Int) = 0) → (∃ n, wM_unreached_48 Q n l1 l2 1 0 H8 G9)))) (G := G) (slot := 12) (l4 := 0) (f := (l1.toNat : Nat)) q2 (Or.inr ⟨rfl, rfl⟩) t1 t2 hF (W4_of q2) (by decide) (by decide) hg (fun hn K D w1 w2 w3 w4 w5 w6 w7 => brF (by decide) ?_) (fun hn K w1 => brT rfl (hQ _ K w1))
  · rw [ef] at this
    exact this
  · have key : ∀ (d : Nat) (l3 l4 : Int), 0 ≤ l4 → l4 + d = 120 → wM_unreached_48 Q (d + 1) l1 l2 l3 l4 K G := by
      intro d
      induction d with
      | zero => intro l3 l4 h0 hd; exact brF (by rw [w3]; omega) ⟨fun _ => hQ _ K w1, fun _ => hQ _ K w1⟩
      | succ d ih =>
        intro l3 l4 h0 hd
        have nx : ∀ s0, wM_unreached_89 Q (fun l1 l2 l3 l4 H G => wM_unreached_48 Q (d + 1) l1 l2 l3 l4 H G) l1 l2 l4 s0 K G := fun s0 => by
          show wM_unreached_48 Q (d + 1) l1 l2 s0 (e3_w32 (l4 + 1)) K G
          rw [e3_w32_id (x := l4 + 1) (by omega) (by omega)]
          exact ih s0 (l4 + 1) (by omega) (by omega)
        refine ⟨fun _ => ⟨fun _ => nx _, fun _ => ?_⟩, fun _ => ⟨fun _ => hQ _ K w1, fun _ => hQ _ K w1⟩⟩
        rw [e3_w32_id (x := 3600 + l4) (by omega) (by omega)]
        exact ⟨by omega, fun _ => nx _, fun _ => nx _⟩
    exact ⟨121, key 120 1 0 (by omega) (by omega)⟩
end ZMK2
