section JFS
variable {n m m2 nf : Nat} {σ σ2 g H K : e3_H} {G : e3_G} {Vs : Int → Int → Int → List (Int × Int)} {mr0 : Nat → Nat} {way km : Nat → Int} {N : Nat → List a_ND} {R : Int → Int → e3_H → e3_G → Prop} {W : Int → e3_H → e3_G → Prop}
/-- read, in both, with what it leaves -/
theorem f_read (h : JI n H G) (hR : JFe n H G (FRr H) R) (hW : JW H R (fun Q H G => wM_read Q H G) W) : wP_read W H G := by
  obtain ⟨⟨hM, hGC⟩, ⟨⟨h3, h4⟩, h5, h6⟩, _, _, hO⟩ := id h
  have h69 : H 2 6 = H 40 9 := by rcases hO with ⟨y1, y2, _⟩ | ⟨y1, y2, _⟩ <;> omega
  have hq : a_text (H 4) n (s_0 H) = a_text (H 41) n (s_0 H) := q_text h6 _
  have b9 : ∀ {K : e3_H} {G2 : e3_G}, RDf H G K G2 → H 2 6 = 0 → K 40 9 = 0 := fun r1 z => by rw [r1.2.1 40 9 (by decide) (by decide) (by decide) (by decide)]; omega
  have b1 : ∀ {K : e3_H} {G2 : e3_G}, RDf H G K G2 → K 40 1 = (n : Int) := fun r1 => by rw [r1.2.1 40 1 (by decide) (by decide) (by decide) (by decide)]; exact h4
  have b41 : ∀ {K : e3_H} {G2 : e3_G}, RDf H G K G2 → K 41 = H 41 := fun r1 => funext fun x => r1.2.1 41 x (by decide) (by decide) (by decide) (by decide)
  have bs : ∀ {K : e3_H} {G2 : e3_G}, RDf H G K G2 → ∀ a k : Int, 40 ≤ a → a < 139 → s_0 H a k = s_0 K a k := fun r1 a k a1 a2 => s_0_eq (r1.2.1 a k a2 (by omega) (by omega) (by omega))
  have b0 : ∀ {K : e3_H} {G2 : e3_G}, RDf H G K G2 → ∀ k : Int, K 0 k = H 0 k := fun r1 k => r1.2.1 0 k (by decide) (by decide) (by decide) (by decide)
  have c0 : ∀ {K K2 : e3_H} {G2 : e3_G}, RDf H G K G2 → MRf K K2 → ∀ k : Int, K2 0 k = H 0 k := fun r1 r3 k => by rw [r3.1 0 k (by decide) (by decide)]; exact b0 r1 k
  have fr : ∀ {K K2 : e3_H} {G2 : e3_G}, RDf H G K G2 → MRf K K2 → ((∀ a k : Int, a ≠ 40 → (26 ≤ a ∧ a ≤ 41) ∨ (127 < a ∧ a < 139) → K2 a k = H a k) ∧ ∀ k : Int, 106 ≤ k → K2 40 k = H 40 k) := fun r1 r3 => ⟨fun a k a1 a2 => by rw [r3.1 a k a1 (by omega)]; exact r1.2.1 a k (by omega) (by omega) (by omega) (by omega), fun k hk => by rw [r3.2.1 k hk]; exact r1.2.1 40 k (by decide) (by decide) (by decide) (by decide)⟩
  have hb : ∀ k : Nat, k < n → 0 ≤ H 41 k := fun k hk => (bt_rg h6 k hk).2
  refine cP_read (σ := s_0 H) hM h3 h5 rfl (fun k hk => (bt_rg h6 k hk).1) (fun z => ?_) (s_0_at (by omega)) (s_0_at (by omega)) (s_0_at (by omega)) (fun z => hW _ H G (fun _ => rfl) ?_) (fun z q K G2 ha r1 r2 k14 k8 k26 k27 hz => hW _ K G2 (b0 r1) ?_) (fun z σ3 m nf Vs mr0 kk N K G2 ha hP hN r1 r2 k14 k8 k26 k27 hz => hW _ K G2 (b0 r1) ?_) (fun z σ3 g m nf Vs mr0 kk N K G2 ha hP hN r1 r2 hX h8 k26 k27 hz => hW _ K G2 (b0 r1) ?_)
  · rcases hO with ⟨_, _, y1, y2, _⟩ | ⟨y, _⟩
    · exact ⟨y1, y2⟩
    · omega
  · exact cM_read (σ := s_0 H) h4 h5 rfl hb (fun _ _ _ _ => rfl) (fun _ => hR (-2) n H G h ⟨⟨fun _ _ _ _ => rfl, fun _ _ => rfl⟩, Or.inl rfl⟩ (by omega) (fun _ => rfl)) (fun y => absurd y (by omega)) (fun y => absurd y (by omega))
  · refine cM_read (σ := s_0 H) (t := H 41) (b1 r1) h5 (b41 r1) hb (bs r1) (fun y => absurd (b9 r1 z) y) (fun _ q2 K2 ha2 r3 k9 k10 k41 => ?_) (fun _ σ3 ha2 => ?_)
    · rw [← hq, ha] at ha2
      cases ha2
      have f3 := r3.1
      exact hR _ 0 K2 G2 (JI_rd h z r1 r2 r3 (by omega) (Or.inl ⟨by rw [f3 2 6 (by decide) (by decide)]; exact k26, k9, by rw [f3 14 3 (by decide) (by decide)]; exact k14, by rw [f3 8 0 (by decide) (by decide)]; exact k8, k10, k41⟩)) ⟨fr r1 r3, Or.inr ⟨z, r3.2.2.2, Or.inl ⟨by rw [f3 2 6 (by decide) (by decide)]; exact k26, by rw [f3 8 0 (by decide) (by decide)]; exact k8, by rw [f3 2 7 (by decide) (by decide)]; exact k27⟩⟩⟩ (by omega) (c0 r1 r3)
    · rw [← hq, ha] at ha2
      cases ha2
  · refine cM_read (σ := s_0 H) (t := H 41) (b1 r1) h5 (b41 r1) hb (bs r1) (fun y => absurd (b9 r1 z) y) (fun _ q2 K2 ha2 r3 k9 k10 k41 => ?_) (fun _ σ4 ha2 => ?_)
    · rw [← hq, ha] at ha2
      cases ha2
    · rw [← hq, ha] at ha2
      cases ha2
      refine ⟨m, nf, Vs, mr0, kk, N, hP, fun _ K2 r3 k9 k10 k41 => ?_, fun hN2 => ?_⟩
      · have f3 := r3.1
        exact hR _ 0 K2 G2 (JI_rd h z r1 r2 r3 (by omega) (Or.inl ⟨by rw [f3 2 6 (by decide) (by decide)]; exact k26, k9, by rw [f3 14 3 (by decide) (by decide)]; exact k14, by rw [f3 8 0 (by decide) (by decide)]; exact k8, k10, k41⟩)) ⟨fr r1 r3, Or.inr ⟨z, r3.2.2.2, Or.inl ⟨by rw [f3 2 6 (by decide) (by decide)]; exact k26, by rw [f3 8 0 (by decide) (by decide)]; exact k8, by rw [f3 2 7 (by decide) (by decide)]; exact k27⟩⟩⟩ (by omega) (c0 r1 r3)
      · obtain ⟨f, f1, f2⟩ := hN
        have := hN2 f f1
        omega
  · refine cM_read (σ := s_0 H) (t := H 41) (b1 r1) h5 (b41 r1) hb (bs r1) (fun y => absurd (b9 r1 z) y) (fun _ q2 K2 ha2 r3 k9 k10 k41 => ?_) (fun _ σ4 ha2 => ?_)
    · rw [← hq, ha] at ha2
      cases ha2
    · rw [← hq, ha] at ha2
      cases ha2
      refine ⟨m, nf, Vs, mr0, kk, N, hP, fun hN2 => ?_, fun _ K2 r3 k9 hTM => ?_⟩
      · obtain ⟨f, f1, f2⟩ := hN2
        have := hN f f1
        omega
      · have f3 := r3.1
        have hPc := PX_c hP
        have k10 := hTM.1.2.1.1
        refine hR _ 0 K2 G2 (JI_rd h z r1 r2 r3 (by omega) (Or.inr ⟨by rw [f3 2 6 (by decide) (by decide)]; exact k26, k9, σ3, g, m, nf, Vs, mr0, (fun _ => 0), (fun _ => (m : Int)), N, hPc, TX_lo hX (fun a x ha => f3 a x (by omega) (by omega)), fun f hf => ⟨hN f hf, gr_cnt (RR40 hPc hX hf) hPc.1.2.2.2.2.1.2.1 _ _ _ (hP.2.2.2.2.2.2 f hf).2.2⟩, fun f hf => ?_, hTM.1, TRS_TM hP hTM hN⟩)) ⟨fr r1 r3, Or.inr ⟨z, r3.2.2.2, Or.inr ⟨by rw [f3 2 6 (by decide) (by decide)]; exact k26, by rw [f3 2 7 (by decide) (by decide), f3 8 0 (by decide) (by decide), k27]; exact hX.2.1.1.symm⟩⟩⟩ (by omega) (c0 r1 r3)
        have := (FY_fu (hX.2.2.1 f hf)).1
        rw [f3 15 _ (by decide) (by decide), f3 _ 7 (by omega) (by omega)]
        exact h8 f hf
/-- add, in both, with what it leaves -/
theorem f_add (h : JI n H G) (hR : JFe n H G (FRa H) R) (hW : JW H R (fun Q H G => wM_add Q H G) W) : wP_add W H G := by
  obtain ⟨⟨hM, hGC⟩, ⟨⟨h3, h4⟩, h5, h6⟩, _, _, hO⟩ := id h
  have hb : ∀ k : Nat, k < n → 0 ≤ H 41 k := fun k hk => (bt_rg h6 k hk).2
  have hc : ∀ k : Nat, k < n → -128 ≤ H 4 k ∧ H 4 k ≤ 127 := fun k hk => (bt_rg h6 k hk).1
  rcases hO with ⟨y1, y2, _⟩ | ⟨y1, y2, σ, g, m, nf, Vs, mr0, way, km, N, p1, p2, p3, p4, p5, p6⟩
  · exact cP_add (σ := H) (m := 0) h3 h5 hM.2.2.2.2 rfl hc (fun z => absurd y1 z) (fun _ => hW _ H G (fun _ => rfl) (cM_add (σ := e3_up H 40 7 0) (m := 0) h4 h5 rfl hb (fun _ _ _ _ => rfl) (fun z => absurd y2 z) (fun _ => hR (-2) n H G h ⟨⟨fun _ _ _ _ => rfl, fun _ _ => rfl⟩, ⟨fun _ _ _ => rfl, fun _ _ => rfl, fun _ _ _ => rfl⟩, rfl, Or.inl ⟨rfl, rfl⟩⟩ (by omega) (fun _ => rfl)) (fun z => absurd y2 z) (fun z => absurd y2 z))) (fun z => absurd y1 z) (fun z => absurd y1 z)
  have nz : H 2 6 ≠ 0 := by omega
  have nz9 : H 40 9 ≠ 0 := by omega
  obtain ⟨t1, ⟨t2, t3⟩, t4⟩ := id p5
  have s10 : σ 40 10 = (m : Int) := p1.1.2.2.2.2.1.1
  have up : ∀ (M : e3_H) (a k : Int), a ≠ 40 → e3_up M 40 7 0 a k = M a k := fun M a k ha => e3_up_ne (ne_1 ha)
  have uk : ∀ (M : e3_H) (k : Int), k ≠ 7 → e3_up M 40 7 0 40 k = M 40 k := fun M k hk => e3_up_ne (ne_2 hk)
  have A0 : AK m σ (e3_up H 40 7 0) := ⟨fun a x ha => by rw [up H a x (by omega)]; exact t1 a x (by omega) (by omega) (by omega), fun a x a1 a2 _ _ => by rw [up H a x (by omega)]; exact t1 a x (by omega) (by omega) (by omega), fun x _ _ => by rw [up H 45 x (by decide)]; exact t1 45 x (by decide) (by decide) (by decide), ⟨by rw [uk H 16 (by decide)]; exact t3, by rw [uk H 41 (by decide), t4]; exact p1.1.1.symm⟩, by rw [uk H 10 (by decide), t2]; exact Int.le_refl _⟩
  have u10 : e3_up H 40 7 0 40 10 = (m : Int) := by rw [uk H 10 (by decide)]; exact t2
  have P0 : PXc (e3_up H 40 7 0) m nf Vs mr0 := PXc_AG A0 u10 p1
  have K0 : c_kd (e3_up H 40 7 0) m H := ckd_AG A0 p2.2.1 p1.1.2.2.2.2.1
  have I0 : k_inv (e3_up H 40 7 0) m := P0.1.2.2.2.2.1
  have X0 : TX (e3_up H 40 7 0) g m nf Vs way km N H G := TX_ad p2 A0 s10 K0 (fun _ _ _ => rfl) rfl
  have hq : a_add (H 4) n (e3_up H 40 7 0) = a_add (H 41) n (e3_up H 40 7 0) := q_add h6 _
  have b0 : ∀ {K : e3_H}, ADf H K → ∀ k : Int, K 0 k = H 0 k := fun r1 k => r1.1 0 k (by decide) (by decide) (by decide)
  have b41 : ∀ {K : e3_H}, ADf H K → K 41 = H 41 := fun r1 => funext fun x => r1.1 41 x (by decide) (by decide) (by decide)
  have b40 : ∀ {K : e3_H}, ADf H K → ∀ k : Int, K 40 k = H 40 k := fun r1 k => r1.1 40 k (by decide) (by decide) (by decide)
  have bs : ∀ {K : e3_H}, ADf H K → ∀ a k : Int, 40 ≤ a → a < 139 → e3_up H 40 7 0 a k = e3_up K 40 7 0 a k := fun {K} r1 a k a1 a2 => by
    by_cases z : a = 40 ∧ k = 7
    · obtain ⟨rfl, rfl⟩ := z
      rw [e3_up_self, e3_up_self]
    · rw [e3_up_ne z, e3_up_ne z]
      exact (r1.1 a k (by omega) (by omega) (by omega)).symm
  have c0 : ∀ {K K2 : e3_H}, ADf H K → MAf m K K2 → ∀ k : Int, K2 0 k = H 0 k := fun r1 r3 k => by rw [r3.1 0 k (by decide) (by decide) (by decide) (by decide) (by decide)]; exact b0 r1 k
  have ea : ∀ {K K2 : e3_H}, ADf H K → MAf m K K2 → ∀ a k : Int, ¬ (a = 2 ∨ a = 3 ∨ (5 ≤ a ∧ a ≤ 14) ∨ a = 40 ∨ (42 ≤ a ∧ a ≤ 45)) → K2 a k = H a k := fun r1 r3 a k ha => by rw [r3.1 a k (by omega) (by omega) (by omega) (by omega) (by omega)]; exact r1.1 a k (by omega) (by omega) (by omega)
  have ek : ∀ {K K2 : e3_H}, ADf H K → MAf m K K2 → ∀ k : Int, 8 < k → k ≠ 10 → k ≠ 11 → K2 40 k = H 40 k := fun r1 r3 k k1 k2 k3 => by rw [r3.2.2.2.1 k k1 k2 k3]; exact b40 r1 k
  have e14 : ∀ {K K2 : e3_H}, ADf H K → MAf m K K2 → K2 14 3 = H 14 3 := fun r1 r3 => by rw [r3.1 14 3 (by decide) (by decide) (by decide) (by decide) (by decide)]; exact r1.2.2.2 3 (by decide) (by decide)
  have e26 : ∀ {K K2 : e3_H}, ADf H K → MAf m K K2 → K2 2 6 = 1 := fun r1 r3 => by rw [r3.1 2 6 (by decide) (by decide) (by decide) (by decide) (by decide), r1.2.2.1 6 (by decide)]; exact y1
  have ckd : ∀ {K K2 τ : e3_H} {mm : Nat}, MAf m K K2 → c_kd τ mm K → c_kd τ mm K2 := fun r3 hk => ckd_eq hk (fun a k ha => r3.1 a k (by omega) (by omega) (by omega) (by omega) (by omega))
  have c8 : ∀ {K K2 : e3_H}, ADf H K → MAf m K K2 → C8 nf K2 := fun r1 r3 f hf => by
    have := (FY_fu (p2.2.2.1 f hf)).1
    rw [ea r1 r3 15 _ (by decide), ea r1 r3 _ 7 (by omega)]
    exact p4 f hf
  have ms : ∀ {K K2 : e3_H}, ADf H K → MAf m K K2 → TRS (e3_up H 40 7 0) nf Vs mr0 way km N K2 := fun r1 r3 => TRS_AK A0 (TRS_eq p6 (fun a k ha => ea r1 r3 a k (by omega)))
  have fr : ∀ {K K2 : e3_H}, ADf H K → MAf m K K2 → ((∀ a k : Int, a ≠ 40 → (15 ≤ a ∧ a ≤ 41) ∨ 46 ≤ a → K2 a k = H a k) ∧ ∀ k : Int, 11 < k → K2 40 k = H 40 k) := fun r1 r3 => ⟨fun a k a1 a2 => ea r1 r3 a k (by omega), fun k hk => ek r1 r3 k (by omega) (by omega) (by omega)⟩
  have e27 : ∀ {K K2 : e3_H}, ADf H K → MAf m K K2 → K2 2 7 = H 2 7 := fun r1 r3 => by rw [r3.1 2 7 (by decide) (by decide) (by decide) (by decide) (by decide)]; exact r1.2.2.1 7 (by decide)
  have h80 : H 8 0 = (m : Int) := p2.2.1.1
  have e12 : ∀ {K2 τ : e3_H} {mm : Nat}, c_kd τ mm K2 → m ≤ mm → (∀ k : Int, 0 ≤ k → k < (m : Int) → τ 44 k = e3_up H 40 7 0 44 k) → ∀ k : Int, 0 ≤ k → k < H 8 0 → K2 12 k = H 12 k := fun hc hm ht k k0 k1 => by
    have c1 := (hc.2 k.toNat (by omega)).2.2.1
    have c2 := (K0.2 k.toNat (by omega)).2.2.1
    rw [show ((k.toNat : Nat) : Int) = k by omega] at c1 c2
    rw [c1, c2]
    exact ht k k0 (by omega)
  refine cP_add (σ := e3_up H 40 7 0) (m := m) h3 h5 hM.2.2.2.2 rfl hc (fun _ => ⟨K0, I0⟩) (fun z => absurd z nz) (fun _ q K ha r1 hk => hW _ K G (b0 r1) ?_) (fun _ σ2 K ha r1 hk => hW _ K G (b0 r1) ?_)
  · refine cM_add (σ := e3_up H 40 7 0) (m := m) (t := H 41) (by rw [b40 r1]; exact h4) h5 (b41 r1) hb (bs r1) (fun _ => I0) (fun z => absurd (by rw [← b40 r1]; exact z) nz9) (fun _ q2 K2 ha2 r3 k10 k11 => ?_) (fun _ σ3 K2 ha2 => ?_)
    · rw [← hq, ha] at ha2
      cases ha2
      have A2 : AK m (e3_up H 40 7 0) K2 := ⟨fun a x z => by rw [ea r1 r3 a x (by omega), up H a x (by omega)], fun a x a1 a2 x0 x1 => ?_, fun x x0 x1 => ?_, ⟨by rw [ek r1 r3 16 (by decide) (by decide) (by decide), uk H 16 (by decide)], by rw [ek r1 r3 41 (by decide) (by decide) (by decide), uk H 41 (by decide)]⟩, by omega⟩
      · refine hR _ 0 K2 G (JI_ad h t2 r1 r3 (by omega) (Or.inr ⟨e26 r1 r3, by rw [ek r1 r3 9 (by decide) (by decide) (by decide)]; exact y2, K2, g, m, nf, Vs, mr0, way, km, N, PXc_AG A2 k10 P0, TX_ad X0 A2 u10 (ckd_AG A2 (ckd r3 hk) I0) (fun a x z => ea r1 r3 a x (by omega)) (e14 r1 r3), p3, c8 r1 r3, ⟨fun _ _ _ _ _ => rfl, ⟨k10, rfl⟩, by rw [ek r1 r3 41 (by decide) (by decide) (by decide)]; exact t4⟩, TRS_AK A2 (ms r1 r3)⟩)) ⟨fr r1 r3, ⟨e12 (ckd r3 hk) (Nat.le_refl _) (fun _ _ _ => rfl), fun k hk => (A2.2.1 43 k (by decide) (by decide) (by omega) (by omega)).trans (up H 43 k (by decide)), fun k k0 k1 => (A2.2.2.1 k k0 (by omega)).trans (up H 45 k (by decide))⟩, e27 r1 r3, Or.inl ⟨by rw [(ckd r3 hk).1, h80], by rw [k11]; exact b40 r1 11⟩⟩ (by omega) (c0 r1 r3)
      · have r := r3.2.1 x (by omega)
        have f := r1.1 a x (by omega) (by omega) (by omega)
        rw [up H a x (by omega), ← f]
        rcases (show a = 42 ∨ a = 43 ∨ a = 44 by omega) with rfl | rfl | rfl
        · exact r.1
        · exact r.2.1
        · exact r.2.2
      · rw [up H 45 x (by decide), r3.2.2.1 x x1]
        exact r1.1 45 x (by decide) (by decide) (by decide)
    · rw [← hq, ha] at ha2
      cases ha2
  · refine cM_add (σ := e3_up H 40 7 0) (m := m) (t := H 41) (by rw [b40 r1]; exact h4) h5 (b41 r1) hb (bs r1) (fun _ => I0) (fun z => absurd (by rw [← b40 r1]; exact z) nz9) (fun _ q2 K2 ha2 => ?_) (fun _ σ3 K2 ha2 r3 k10 k11 kt => ?_)
    · rw [← hq, ha] at ha2
      cases ha2
    · rw [← hq, ha] at ha2
      cases ha2
      obtain ⟨j, hj⟩ := add_knd ha
      have A2 : AK m (e3_up H 40 7 0) σ2 := knd_AK hj I0
      have P2 := PXc_AK hj P0
      refine hR _ 0 K2 G (JI_ad h t2 r1 r3 (by omega) (Or.inr ⟨e26 r1 r3, by rw [ek r1 r3 9 (by decide) (by decide) (by decide)]; exact y2, σ2, g, m + 1, nf, Vs, mr0, way, km, N, P2, TX_ad X0 A2 u10 (ckd r3 hk) (fun a x z => ea r1 r3 a x (by omega)) (e14 r1 r3), p3, c8 r1 r3, ⟨kt, ⟨by rw [k10]; omega, ?_⟩, by rw [ek r1 r3 41 (by decide) (by decide) (by decide)]; exact t4⟩, TRS_AK A2 (ms r1 r3)⟩)) ⟨fr r1 r3, ⟨e12 (ckd r3 hk) (by omega) (fun k k0 k1 => A2.2.1 44 k (by decide) (by decide) k0 k1), fun k hk => (kt 43 k (by decide) (by decide) (by decide)).trans ((A2.2.1 43 k (by decide) (by decide) (by omega) (by omega)).trans (up H 43 k (by decide))), fun k k0 k1 => (kt 45 k (by decide) (by decide) (by decide)).trans ((A2.2.2.1 k k0 (by omega)).trans (up H 45 k (by decide)))⟩, e27 r1 r3, Or.inr ⟨by rw [(ckd r3 hk).1, h80]; omega, by rw [k11, b40 r1 11]⟩⟩ (by omega) (c0 r1 r3)
      rw [ek r1 r3 16 (by decide) (by decide) (by decide), A2.2.2.2.1.1, uk H 16 (by decide)]
end JFS
