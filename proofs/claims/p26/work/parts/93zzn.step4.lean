section JRD
variable {n : Nat} {H : e3_H} {G : e3_G} {R : Int → Int → e3_H → e3_G → Prop} {W : Int → e3_H → e3_G → Prop}
theorem s_0_eq {H K : e3_H} {a k : Int} (e : K a k = H a k) : s_0 H a k = s_0 K a k := by
  by_cases z : a ≠ 40 ∨ (k ≠ 10 ∧ k ≠ 41 ∧ k ≠ 16 ∧ k ≠ 11 ∧ k ≠ 7)
  · rw [s_0_ne z, s_0_ne z, e]
  · obtain rfl : a = 40 := by omega
    rw [s_0_at (by omega), s_0_at (by omega)]
theorem RR40 {σ g : e3_H} {m nf f : Nat} {Vs : Int → Int → Int → List (Int × Int)} {mr0 : Nat → Nat} {way km : Nat → Int} {N : Nat → List a_ND} (hP : PXc σ m nf Vs mr0) (hX : TX σ g m nf Vs way km N H G) (hf : f < nf) : (RR σ f (Vs f) false (mr0 f)).length ≤ 40 := by
  obtain ⟨cx, pn, cnt, mr, y1, y2, hDX⟩ := DX_of (hX.2.2.1 f hf) ⟨hX.2.1, hP.1.2.2.2.2.1⟩
  have hmr : mr = mr0 f := by have := (hP.2.2.2.2.2.2 f hf).1; omega
  subst hmr
  exact hDX.2.2.1.2
/-- both programs behind a read -/
theorem JI_rd {K K2 : e3_H} {G2 : e3_G} (h : JI n H G) (h26 : H 2 6 = 0) (r1 : RDf H G K G2) (r2 : MKR K G2) (r3 : MRf K K2) (r4 : 0 ≤ K2 40 10) (hT : (K2 2 6 = 0 ∧ K2 40 9 = 0 ∧ K2 14 3 = 0 ∧ K2 8 0 = 0 ∧ K2 40 10 = 0 ∧ K2 40 41 = 0) ∨ (K2 2 6 = 1 ∧ K2 40 9 = 1 ∧ ∃ (σ g : e3_H) (m nf : Nat) (Vs : Int → Int → Int → List (Int × Int)) (mr0 : Nat → Nat) (way km : Nat → Int) (N : Nat → List a_ND), JT σ g m nf Vs mr0 way km N K2 G2)) : JI 0 K2 G2 := by
  obtain ⟨⟨h1, h2⟩, _, ⟨l, s⟩, ⟨v, w⟩, hO⟩ := h
  have h10 : H 40 10 = 0 := by
    rcases hO with ⟨_, _, _, _, y, _⟩ | ⟨y, _⟩
    · exact y
    · omega
  have e : ∀ a k : Int, a ≠ 40 → (26 ≤ a ∧ a ≤ 41) ∨ (127 < a ∧ a < 139) → K2 a k = H a k := fun a k a1 a2 => by rw [r3.1 a k a1 (by omega)]; exact r1.2.1 a k (by omega) (by omega) (by omega) (by omega)
  have ek : ∀ k : Int, 106 ≤ k → K2 40 k = H 40 k := fun k hk => by rw [r3.2.1 k hk]; exact r1.2.1 40 k (by decide) (by decide) (by decide) (by decide)
  have ht := r2.2.2.1.1
  refine ⟨⟨MKR_k r2 ⟨[], (List.append_nil _).symm⟩ (r3.1 16 1 (by decide) (by decide)) (r3.1 16 4 (by decide) (by decide)) (fun x _ _ => r3.1 _ x (by omega) (by omega)) (fun j => r3.1 1 j (by decide) (by decide)), ?_⟩, ⟨⟨?_, r3.2.2.1⟩, by decide, fun k hk => absurd hk (Nat.not_lt_zero _)⟩, ⟨zLX_eq l (fun a k a1 a2 => e a k (by omega) (by omega)), ?_⟩, ⟨zMV_eq v (fun a k a1 a2 => e a k (by omega) (by omega)) (ek 109 (by decide)) (by rw [h10]; exact r4) (fun k k0 k1 => by omega), ?_⟩, hT⟩
  · obtain ⟨E, z⟩ := r1.1
    rw [z]
    exact ⟨ga_app h2.1, ga_app h2.2.1, ga_app h2.2.2.1, ga_app h2.2.2.2.1, ga_app h2.2.2.2.2⟩
  · rw [r3.1 3 1 (by decide) (by decide)]
    exact r1.2.2.1
  · unfold zSO
    rw [e 34 9 (by decide) (by decide), e 34 11 (by decide) (by decide)]
    exact s
  · unfold zMH
    rw [ek 109 (by decide), ek 123 (by decide), ek 128 (by decide)]
    exact ⟨fun i i0 i1 => by rw [e 136 i (by decide) (by decide)]; exact w.1 i i0 i1, w.2⟩
/-- read, in both -/
theorem j_read (h : JI n H G) (hR : JRe n H G R) (hW : JW H R (fun Q H G => wM_read Q H G) W) : wP_read W H G := by
  obtain ⟨⟨hM, hGC⟩, ⟨⟨h3, h4⟩, h5, h6⟩, _, _, hO⟩ := id h
  have h69 : H 2 6 = H 40 9 := by rcases hO with ⟨y1, y2, _⟩ | ⟨y1, y2, _⟩ <;> omega
  have hq : a_text (H 4) n (s_0 H) = a_text (H 41) n (s_0 H) := q_text h6 _
  have b9 : ∀ {K : e3_H} {G2 : e3_G}, RDf H G K G2 → H 2 6 = 0 → K 40 9 = 0 := fun r1 z => by rw [r1.2.1 40 9 (by decide) (by decide) (by decide) (by decide)]; omega
  have b1 : ∀ {K : e3_H} {G2 : e3_G}, RDf H G K G2 → K 40 1 = (n : Int) := fun r1 => by rw [r1.2.1 40 1 (by decide) (by decide) (by decide) (by decide)]; exact h4
  have b41 : ∀ {K : e3_H} {G2 : e3_G}, RDf H G K G2 → K 41 = H 41 := fun r1 => funext fun x => r1.2.1 41 x (by decide) (by decide) (by decide) (by decide)
  have bs : ∀ {K : e3_H} {G2 : e3_G}, RDf H G K G2 → ∀ a k : Int, 40 ≤ a → a < 139 → s_0 H a k = s_0 K a k := fun r1 a k a1 a2 => s_0_eq (r1.2.1 a k a2 (by omega) (by omega) (by omega))
  have b0 : ∀ {K : e3_H} {G2 : e3_G}, RDf H G K G2 → ∀ k : Int, K 0 k = H 0 k := fun r1 k => r1.2.1 0 k (by decide) (by decide) (by decide) (by decide)
  have c0 : ∀ {K K2 : e3_H} {G2 : e3_G}, RDf H G K G2 → MRf K K2 → ∀ k : Int, K2 0 k = H 0 k := fun r1 r3 k => by rw [r3.1 0 k (by decide) (by decide)]; exact b0 r1 k
  have hb : ∀ k : Nat, k < n → 0 ≤ H 41 k := fun k hk => (bt_rg h6 k hk).2
  refine cP_read (σ := s_0 H) hM h3 h5 rfl (fun k hk => (bt_rg h6 k hk).1) (fun z => ?_) (s_0_at (by omega)) (s_0_at (by omega)) (s_0_at (by omega)) (fun z => hW _ H G (fun _ => rfl) ?_) (fun z q K G2 ha r1 r2 k14 k8 k26 k27 hz => hW _ K G2 (b0 r1) ?_) (fun z σ3 m nf Vs mr0 kk N K G2 ha hP hN r1 r2 k14 k8 k26 k27 hz => hW _ K G2 (b0 r1) ?_) (fun z σ3 g m nf Vs mr0 kk N K G2 ha hP hN r1 r2 hX h8 k26 k27 hz => hW _ K G2 (b0 r1) ?_)
  · rcases hO with ⟨_, _, y1, y2, _⟩ | ⟨y, _⟩
    · exact ⟨y1, y2⟩
    · omega
  · exact cM_read (σ := s_0 H) h4 h5 rfl hb (fun _ _ _ _ => rfl) (fun _ => hR (-2) n H G h (by omega) (fun _ => rfl)) (fun y => absurd y (by omega)) (fun y => absurd y (by omega))
  · refine cM_read (σ := s_0 H) (t := H 41) (b1 r1) h5 (b41 r1) hb (bs r1) (fun y => absurd (b9 r1 z) y) (fun _ q2 K2 ha2 r3 k9 k10 k41 => ?_) (fun _ σ3 ha2 => ?_)
    · rw [← hq, ha] at ha2
      cases ha2
      have f3 := r3.1
      exact hR _ 0 K2 G2 (JI_rd h z r1 r2 r3 (by omega) (Or.inl ⟨by rw [f3 2 6 (by decide) (by decide)]; exact k26, k9, by rw [f3 14 3 (by decide) (by decide)]; exact k14, by rw [f3 8 0 (by decide) (by decide)]; exact k8, k10, k41⟩)) (by omega) (c0 r1 r3)
    · rw [← hq, ha] at ha2
      cases ha2
  · refine cM_read (σ := s_0 H) (t := H 41) (b1 r1) h5 (b41 r1) hb (bs r1) (fun y => absurd (b9 r1 z) y) (fun _ q2 K2 ha2 r3 k9 k10 k41 => ?_) (fun _ σ4 ha2 => ?_)
    · rw [← hq, ha] at ha2
      cases ha2
    · rw [← hq, ha] at ha2
      cases ha2
      refine ⟨m, nf, Vs, mr0, kk, N, hP, fun _ K2 r3 k9 k10 k41 => ?_, fun hN2 => ?_⟩
      · have f3 := r3.1
        exact hR _ 0 K2 G2 (JI_rd h z r1 r2 r3 (by omega) (Or.inl ⟨by rw [f3 2 6 (by decide) (by decide)]; exact k26, k9, by rw [f3 14 3 (by decide) (by decide)]; exact k14, by rw [f3 8 0 (by decide) (by decide)]; exact k8, k10, k41⟩)) (by omega) (c0 r1 r3)
      · obtain ⟨f, f1, f2⟩ := hN
        have := hN2 f f1
        omega
  · refine cM_read (σ := s_0 H) (t := H 41) (b1 r1) h5 (b41 r1) hb (bs r1) (fun y => absurd (b9 r1 z) y) (fun _ q2 K2 ha2 r3 k9 k10 k41 => ?_) (fun _ σ4 ha2 => ?_)
    · rw [← hq, ha] at ha2
      cases ha2
    · rw [← hq, ha] at ha2
      cases ha2
      refine ⟨m, nf, Vs, mr0, kk, N, hP, fun hN2 => ?_, fun _ K2 r3 k9 hTM => ?_⟩
      · obtain ⟨f, f1, f2⟩ := hN2
        have := hN f f1
        omega
      · have f3 := r3.1
        have hPc := PX_c hP
        have k10 := hTM.1.2.1.1
        refine hR _ 0 K2 G2 (JI_rd h z r1 r2 r3 (by omega) (Or.inr ⟨by rw [f3 2 6 (by decide) (by decide)]; exact k26, k9, σ3, g, m, nf, Vs, mr0, (fun _ => 0), (fun _ => (m : Int)), N, hPc, TX_lo hX (fun a x ha => f3 a x (by omega) (by omega)), fun f hf => ⟨hN f hf, gr_cnt (RR40 hPc hX hf) hPc.1.2.2.2.2.1.2.1 _ _ _ (hP.2.2.2.2.2.2 f hf).2.2⟩, fun f hf => ?_, hTM.1, TRS_TM hP hTM hN⟩)) (by omega) (c0 r1 r3)
        have := (FY_fu (hX.2.2.1 f hf)).1
        rw [f3 15 _ (by decide) (by decide), f3 _ 7 (by omega) (by omega)]
        exact h8 f hf
end JRD
