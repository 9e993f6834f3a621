section JTP
variable {n n2 : Nat} {H K : e3_H} {G : e3_G}
/-- both programs behind what changes the tapes alone -/
theorem JI_tp (h : JI n H G) (e : ∀ a k : Int, a ≠ 4 → a ≠ 41 → ¬ ((a = 3 ∨ a = 40) ∧ k = 1) → K a k = H a k) (h3 : K 3 1 = (n2 : Int)) (h4 : K 40 1 = (n2 : Int)) (h5 : n2 ≤ 1600) (h6 : x_bt (K 4) (K 41) n2) : JI n2 K G := by
  obtain ⟨⟨h1, h2⟩, _, ⟨l, s⟩, ⟨v, w⟩, hT⟩ := h
  have ea : ∀ a k : Int, ¬ (a = 3 ∨ a = 4 ∨ a = 40 ∨ a = 41) → K a k = H a k := fun a k ha => e a k (by omega) (by omega) (fun z => by omega)
  have ek : ∀ k : Int, k ≠ 1 → K 40 k = H 40 k := fun k hk => e 40 k (by decide) (by decide) (fun z => hk z.2)
  have ht := h1.2.2.1.1
  refine ⟨⟨MKR_k h1 ⟨[], (List.append_nil _).symm⟩ (ea 16 1 (by decide)) (ea 16 4 (by decide)) (fun x _ _ => ea _ x (by omega)) (fun j => ea 1 j (by decide)), h2⟩, ⟨⟨h3, h4⟩, h5, h6⟩, ⟨zLX_eq l (fun a k h1 h2 => ea a k (by omega)), ?_⟩, ⟨zMV_eq v (fun a k h1 h2 => ea a k (by omega)) (ek 109 (by decide)) (by rw [ek 10 (by decide)]; exact Int.le_refl _) (fun k _ _ => ea 44 k (by decide)), ?_⟩, ?_⟩
  · unfold zSO
    rw [ea 34 9 (by decide), ea 34 11 (by decide)]
    exact s
  · unfold zMH
    rw [ek 109 (by decide), ek 123 (by decide), ek 128 (by decide)]
    exact ⟨fun i i0 i1 => by rw [ea 136 i (by decide)]; exact w.1 i i0 i1, w.2⟩
  · rw [ea 2 6 (by decide), ek 9 (by decide), ea 14 3 (by decide), ea 8 0 (by decide), ek 10 (by decide), ek 41 (by decide)]
    rcases hT with y | ⟨y1, y2, σ, g, m, nf, Vs, mr0, way, km, N, p1, p2, p3, p4, p5, p6⟩
    · exact Or.inl y
    · refine Or.inr ⟨y1, y2, σ, g, m, nf, Vs, mr0, way, km, N, p1, TX_lo p2 (fun a x ha => ea a x (by omega)), p3, fun f hf => ?_, ?_, TRS_eq p6 (fun a k ha => ea a k (by omega))⟩
      · have := (FY_fu (p2.2.2.1 f hf)).1
        rw [ea 15 _ (by decide), ea _ 7 (by omega)]
        exact p4 f hf
      · obtain ⟨t1, ⟨t2, t3⟩, t5⟩ := p5
        exact ⟨fun a k h3 h4 h5 => by rw [ea a k (by omega)]; exact t1 a k h3 h4 h5, ⟨by rw [ek 10 (by decide)]; exact t2, by rw [ek 16 (by decide)]; exact t3⟩, by rw [ek 41 (by decide)]; exact t5⟩
end JTP
section JFD
variable {n : Nat} {H : e3_H} {G : e3_G} {R : Int → Int → e3_H → e3_G → Prop} {W : Int → e3_H → e3_G → Prop} {x l3 : Int}
/-- feed, in both -/
theorem j_feed (h : JI n H G) (hR : JRe n H G R) (hW : JW H R (fun Q H G => wM_feed Q x l3 H G) W) : wP_feed W x l3 H G := by
  have a3 := h.2.1.1.1
  have a4 := h.2.1.1.2
  have a5 := h.2.1.2.1
  refine cP_feed a3 a5 (fun hb => hW _ H G (fun _ => rfl) ?_) (fun b1 b2 b3 => hW _ H G (fun _ => rfl) ?_) (fun i hi i1 i8 hn K k1 k2 k3 => hW _ K G (fun k => k3 0 k (by omega) (by omega)) ?_)
  · exact cM_feed a4 a5 (fun _ => hR (-1) n H G h (by omega) (fun _ => rfl)) (fun a b _ => absurd ⟨a, b⟩ hb) (fun i hi i1 i8 _ _ _ _ _ => absurd ⟨by omega, by omega⟩ hb)
  · exact cM_feed a4 a5 (fun hb => absurd ⟨b1, b2⟩ hb) (fun _ _ _ => hR (-3) n H G h (by omega) (fun _ => rfl)) (fun i hi i1 i8 _ _ _ _ _ => absurd b3 (by omega))
  · refine cM_feed (n := n) (by rw [k3 40 1 (by omega) (by omega)]; exact a4) a5 (fun hb => absurd ⟨by omega, by omega⟩ hb) (fun _ _ c => absurd c (by omega)) (fun i' hi' i1' i8' hn' K2 m1 m2 m3 => ?_)
    obtain rfl : i' = i := by omega
    refine hR _ (n + i') K2 G (JI_tp h (fun a k b1 b2 b3 => ?_) ?_ m1 hn ?_) (by omega) (fun k => ?_)
    · rw [m3 a k (fun z => b3 ⟨Or.inr z.1, z.2⟩) (fun z => b2 z.1)]
      exact k3 a k (fun z => b3 ⟨Or.inl z.1, z.2⟩) (fun z => b1 z.1)
    · rw [m3 3 1 (by omega) (by omega)]
      exact k1
    · refine bt_feed (x := x) h.2.1.2.2 i8 (fun k hk => ?_) (fun k hk => ?_) (fun j hj => ?_) m2
      · rw [m3 4 k (by omega) (by omega)]
        exact k3 4 k (by omega) (by omega)
      · rw [m3 41 k (by omega) (by omega)]
        exact k3 41 k (by omega) (by omega)
      · rw [m3 4 _ (by omega) (by omega)]
        exact k2 j hj
    · rw [m3 0 k (by omega) (by omega)]
      exact k3 0 k (by omega) (by omega)
end JFD
