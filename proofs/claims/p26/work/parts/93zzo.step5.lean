section JAD
variable {n m m2 nf : Nat} {σ σ2 g H K : e3_H} {G : e3_G} {Vs : Int → Int → Int → List (Int × Int)} {mr0 : Nat → Nat} {way km : Nat → Int} {N : Nat → List a_ND} {R : Int → Int → e3_H → e3_G → Prop} {W : Int → e3_H → e3_G → Prop}
/-- a text that the class holds, behind a KIND that comes later -/
theorem TX_ad (h : TX σ g m nf Vs way km N H G) (hA : AK m σ σ2) (h10 : σ 40 10 = (m : Int)) (hc : c_kd σ2 m2 K) (e : ∀ a x : Int, 139 ≤ a ∨ (15 ≤ a ∧ a ≤ 25) → K a x = H a x) (e3 : K 14 3 = H 14 3) : TX σ2 g m2 nf Vs way km N K G := by
  obtain ⟨h1, h2, h3, h4, h5, h6⟩ := h
  have d3 : D3 H G K G := D3_lo (fun a x ha => e a x (by omega))
  refine ⟨by rw [e3]; exact h1, hc, fun f hf => FY_3 (FY_AK hA h10 (h3 f hf)) d3, ?_, CT_3 (CT_AK hA h5) d3, fun f hf => ?_⟩
  · exact TS_k h4 ⟨[], (List.append_nil _).symm⟩ (fun x => e 15 x (by decide)) (e 16 1 (by decide)) (e 16 4 (by decide)) (fun f hf => e _ _ (Or.inl (FY_fu (h3 f hf)).1)) (fun t ht x => e t x (by have := ht.1; omega))
  · have ht := (h4.2.1 f hf).1.1
    exact TDf_k (h6 f hf) (FY_fu (h3 f hf)).1 (FY_fu (h3 f hf)).2 d3 (e _ _ (Or.inl (FY_fu (h3 f hf)).1)) (fun a x a1 a2 => e a x (by omega))
/-- both programs behind an add -/
theorem JI_ad {K2 : e3_H} (h : JI n H G) (h10 : H 40 10 = (m : Int)) (r1 : ADf H K) (r3 : MAf m K K2) (r4 : (m : Int) ≤ K2 40 10) (hT : (K2 2 6 = 0 ∧ K2 40 9 = 0 ∧ K2 14 3 = 0 ∧ K2 8 0 = 0 ∧ K2 40 10 = 0 ∧ K2 40 41 = 0) ∨ (K2 2 6 = 1 ∧ K2 40 9 = 1 ∧ ∃ (σ g : e3_H) (m nf : Nat) (Vs : Int → Int → Int → List (Int × Int)) (mr0 : Nat → Nat) (way km : Nat → Int) (N : Nat → List a_ND), JT σ g m nf Vs mr0 way km N K2 G)) : JI 0 K2 G := by
  obtain ⟨⟨h1, h2⟩, _, ⟨l, s⟩, ⟨v, w⟩, hO⟩ := h
  have e : ∀ a k : Int, ¬ (a = 2 ∨ a = 3 ∨ (5 ≤ a ∧ a ≤ 14) ∨ a = 40 ∨ (42 ≤ a ∧ a ≤ 45)) → K2 a k = H a k := fun a k ha => by rw [r3.1 a k (by omega) (by omega) (by omega) (by omega) (by omega)]; exact r1.1 a k (by omega) (by omega) (by omega)
  have ek : ∀ k : Int, 11 < k → K2 40 k = H 40 k := fun k hk => by rw [r3.2.2.2.1 k (by omega) (by omega) (by omega)]; exact r1.1 40 k (by decide) (by decide) (by decide)
  have ht := h1.2.2.1.1
  refine ⟨⟨MKR_k h1 ⟨[], (List.append_nil _).symm⟩ (e 16 1 (by decide)) (e 16 4 (by decide)) (fun x _ _ => e _ x (by omega)) (fun j => e 1 j (by decide)), h2⟩, ⟨⟨?_, r3.2.2.2.2⟩, by decide, fun k hk => absurd hk (Nat.not_lt_zero _)⟩, ⟨zLX_eq l (fun a k a1 a2 => e a k (by omega)), ?_⟩, ⟨zMV_eq v (fun a k a1 a2 => e a k (by omega)) (ek 109 (by decide)) (by rw [h10]; exact r4) (fun k k0 k1 => ?_), ?_⟩, hT⟩
  · rw [r3.1 3 1 (by decide) (by decide) (by decide) (by decide) (by decide)]
    exact r1.2.1
  · unfold zSO
    rw [e 34 9 (by decide), e 34 11 (by decide)]
    exact s
  · rw [(r3.2.1 k (by omega)).2.2]
    exact r1.1 44 k (by decide) (by decide) (by decide)
  · unfold zMH
    rw [ek 109 (by decide), ek 123 (by decide), ek 128 (by decide)]
    exact ⟨fun i i0 i1 => by rw [e 136 i (by decide)]; exact w.1 i i0 i1, w.2⟩
/-- add, in both -/
theorem j_add (h : JI n H G) (hR : JRe n H G R) (hW : JW H R (fun Q H G => wM_add Q H G) W) : wP_add W H G := by
  obtain ⟨⟨hM, hGC⟩, ⟨⟨h3, h4⟩, h5, h6⟩, _, _, hO⟩ := id h
  have hb : ∀ k : Nat, k < n → 0 ≤ H 41 k := fun k hk => (bt_rg h6 k hk).2
  have hc : ∀ k : Nat, k < n → -128 ≤ H 4 k ∧ H 4 k ≤ 127 := fun k hk => (bt_rg h6 k hk).1
  rcases hO with ⟨y1, y2, _⟩ | ⟨y1, y2, σ, g, m, nf, Vs, mr0, way, km, N, p1, p2, p3, p4, p5, p6⟩
  · exact cP_add (σ := H) (m := 0) h3 h5 hM.2.2.2.2 rfl hc (fun z => absurd y1 z) (fun _ => hW _ H G (fun _ => rfl) (cM_add (σ := e3_up H 40 7 0) (m := 0) h4 h5 rfl hb (fun _ _ _ _ => rfl) (fun z => absurd y2 z) (fun _ => hR (-2) n H G h (by omega) (fun _ => rfl)) (fun z => absurd y2 z) (fun z => absurd y2 z))) (fun z => absurd y1 z) (fun z => absurd y1 z)
  have nz : H 2 6 ≠ 0 := by omega
  have nz9 : H 40 9 ≠ 0 := by omega
  obtain ⟨t1, ⟨t2, t3⟩, t4⟩ := id p5
  have s10 : σ 40 10 = (m : Int) := p1.1.2.2.2.2.1.1
  have up : ∀ (M : e3_H) (a k : Int), a ≠ 40 → e3_up M 40 7 0 a k = M a k := fun M a k ha => e3_up_ne (ne_1 ha)
  have uk : ∀ (M : e3_H) (k : Int), k ≠ 7 → e3_up M 40 7 0 40 k = M 40 k := fun M k hk => e3_up_ne (ne_2 hk)
  have A0 : AK m σ (e3_up H 40 7 0) := ⟨fun a x ha => by rw [up H a x (by omega)]; exact t1 a x (by omega) (by omega) (by omega), fun a x a1 a2 _ _ => by rw [up H a x (by omega)]; exact t1 a x (by omega) (by omega) (by omega), fun x _ _ => by rw [up H 45 x (by decide)]; exact t1 45 x (by decide) (by decide) (by decide), ⟨by rw [uk H 16 (by decide)]; exact t3, by rw [uk H 41 (by decide), t4]; exact p1.1.1.symm⟩, by rw [uk H 10 (by decide), t2]; exact Int.le_refl _⟩
  have u10 : e3_up H 40 7 0 40 10 = (m : Int) := by rw [uk H 10 (by decide)]; exact t2
  have P0 : PXc (e3_up H 40 7 0) m nf Vs mr0 := PXc_AG A0 u10 p1
  have K0 : c_kd (e3_up H 40 7 0) m H := ckd_AG A0 p2.2.1 p1.1.2.2.2.2.1
  have I0 : k_inv (e3_up H 40 7 0) m := P0.1.2.2.2.2.1
  have X0 : TX (e3_up H 40 7 0) g m nf Vs way km N H G := TX_ad p2 A0 s10 K0 (fun _ _ _ => rfl) rfl
  have hq : a_add (H 4) n (e3_up H 40 7 0) = a_add (H 41) n (e3_up H 40 7 0) := q_add h6 _
  have b0 : ∀ {K : e3_H}, ADf H K → ∀ k : Int, K 0 k = H 0 k := fun r1 k => r1.1 0 k (by decide) (by decide) (by decide)
  have b41 : ∀ {K : e3_H}, ADf H K → K 41 = H 41 := fun r1 => funext fun x => r1.1 41 x (by decide) (by decide) (by decide)
  have b40 : ∀ {K : e3_H}, ADf H K → ∀ k : Int, K 40 k = H 40 k := fun r1 k => r1.1 40 k (by decide) (by decide) (by decide)
  have bs : ∀ {K : e3_H}, ADf H K → ∀ a k : Int, 40 ≤ a → a < 139 → e3_up H 40 7 0 a k = e3_up K 40 7 0 a k := fun {K} r1 a k a1 a2 => by
    by_cases z : a = 40 ∧ k = 7
    · obtain ⟨rfl, rfl⟩ := z
      rw [e3_up_self, e3_up_self]
    · rw [e3_up_ne z, e3_up_ne z]
      exact (r1.1 a k (by omega) (by omega) (by omega)).symm
  have c0 : ∀ {K K2 : e3_H}, ADf H K → MAf m K K2 → ∀ k : Int, K2 0 k = H 0 k := fun r1 r3 k => by rw [r3.1 0 k (by decide) (by decide) (by decide) (by decide) (by decide)]; exact b0 r1 k
  have ea : ∀ {K K2 : e3_H}, ADf H K → MAf m K K2 → ∀ a k : Int, ¬ (a = 2 ∨ a = 3 ∨ (5 ≤ a ∧ a ≤ 14) ∨ a = 40 ∨ (42 ≤ a ∧ a ≤ 45)) → K2 a k = H a k := fun r1 r3 a k ha => by rw [r3.1 a k (by omega) (by omega) (by omega) (by omega) (by omega)]; exact r1.1 a k (by omega) (by omega) (by omega)
  have ek : ∀ {K K2 : e3_H}, ADf H K → MAf m K K2 → ∀ k : Int, 8 < k → k ≠ 10 → k ≠ 11 → K2 40 k = H 40 k := fun r1 r3 k k1 k2 k3 => by rw [r3.2.2.2.1 k k1 k2 k3]; exact b40 r1 k
  have e14 : ∀ {K K2 : e3_H}, ADf H K → MAf m K K2 → K2 14 3 = H 14 3 := fun r1 r3 => by rw [r3.1 14 3 (by decide) (by decide) (by decide) (by decide) (by decide)]; exact r1.2.2.2 3 (by decide) (by decide)
  have e26 : ∀ {K K2 : e3_H}, ADf H K → MAf m K K2 → K2 2 6 = 1 := fun r1 r3 => by rw [r3.1 2 6 (by decide) (by decide) (by decide) (by decide) (by decide), r1.2.2.1 6 (by decide)]; exact y1
  have ckd : ∀ {K K2 τ : e3_H} {mm : Nat}, MAf m K K2 → c_kd τ mm K → c_kd τ mm K2 := fun r3 hk => ckd_eq hk (fun a k ha => r3.1 a k (by omega) (by omega) (by omega) (by omega) (by omega))
  have c8 : ∀ {K K2 : e3_H}, ADf H K → MAf m K K2 → C8 nf K2 := fun r1 r3 f hf => by
    have := (FY_fu (p2.2.2.1 f hf)).1
    rw [ea r1 r3 15 _ (by decide), ea r1 r3 _ 7 (by omega)]
    exact p4 f hf
  have ms : ∀ {K K2 : e3_H}, ADf H K → MAf m K K2 → TRS (e3_up H 40 7 0) nf Vs mr0 way km N K2 := fun r1 r3 => TRS_AK A0 (TRS_eq p6 (fun a k ha => ea r1 r3 a k (by omega)))
  refine cP_add (σ := e3_up H 40 7 0) (m := m) h3 h5 hM.2.2.2.2 rfl hc (fun _ => ⟨K0, I0⟩) (fun z => absurd z nz) (fun _ q K ha r1 hk => hW _ K G (b0 r1) ?_) (fun _ σ2 K ha r1 hk => hW _ K G (b0 r1) ?_)
  · refine cM_add (σ := e3_up H 40 7 0) (m := m) (t := H 41) (by rw [b40 r1]; exact h4) h5 (b41 r1) hb (bs r1) (fun _ => I0) (fun z => absurd (by rw [← b40 r1]; exact z) nz9) (fun _ q2 K2 ha2 r3 k10 k11 => ?_) (fun _ σ3 K2 ha2 => ?_)
    · rw [← hq, ha] at ha2
      cases ha2
      have A2 : AK m (e3_up H 40 7 0) K2 := ⟨fun a x z => by rw [ea r1 r3 a x (by omega), up H a x (by omega)], fun a x a1 a2 x0 x1 => ?_, fun x x0 x1 => ?_, ⟨by rw [ek r1 r3 16 (by decide) (by decide) (by decide), uk H 16 (by decide)], by rw [ek r1 r3 41 (by decide) (by decide) (by decide), uk H 41 (by decide)]⟩, by omega⟩
      · refine hR _ 0 K2 G (JI_ad h t2 r1 r3 (by omega) (Or.inr ⟨e26 r1 r3, by rw [ek r1 r3 9 (by decide) (by decide) (by decide)]; exact y2, K2, g, m, nf, Vs, mr0, way, km, N, PXc_AG A2 k10 P0, TX_ad X0 A2 u10 (ckd_AG A2 (ckd r3 hk) I0) (fun a x z => ea r1 r3 a x (by omega)) (e14 r1 r3), p3, c8 r1 r3, ⟨fun _ _ _ _ _ => rfl, ⟨k10, rfl⟩, by rw [ek r1 r3 41 (by decide) (by decide) (by decide)]; exact t4⟩, TRS_AK A2 (ms r1 r3)⟩)) (by omega) (c0 r1 r3)
      · have r := r3.2.1 x (by omega)
        have f := r1.1 a x (by omega) (by omega) (by omega)
        rw [up H a x (by omega), ← f]
        rcases (show a = 42 ∨ a = 43 ∨ a = 44 by omega) with rfl | rfl | rfl
        · exact r.1
        · exact r.2.1
        · exact r.2.2
      · rw [up H 45 x (by decide), r3.2.2.1 x x1]
        exact r1.1 45 x (by decide) (by decide) (by decide)
    · rw [← hq, ha] at ha2
      cases ha2
  · refine cM_add (σ := e3_up H 40 7 0) (m := m) (t := H 41) (by rw [b40 r1]; exact h4) h5 (b41 r1) hb (bs r1) (fun _ => I0) (fun z => absurd (by rw [← b40 r1]; exact z) nz9) (fun _ q2 K2 ha2 => ?_) (fun _ σ3 K2 ha2 r3 k10 k11 kt => ?_)
    · rw [← hq, ha] at ha2
      cases ha2
    · rw [← hq, ha] at ha2
      cases ha2
      obtain ⟨j, hj⟩ := add_knd ha
      have A2 : AK m (e3_up H 40 7 0) σ2 := knd_AK hj I0
      have P2 := PXc_AK hj P0
      refine hR _ 0 K2 G (JI_ad h t2 r1 r3 (by omega) (Or.inr ⟨e26 r1 r3, by rw [ek r1 r3 9 (by decide) (by decide) (by decide)]; exact y2, σ2, g, m + 1, nf, Vs, mr0, way, km, N, P2, TX_ad X0 A2 u10 (ckd r3 hk) (fun a x z => ea r1 r3 a x (by omega)) (e14 r1 r3), p3, c8 r1 r3, ⟨kt, ⟨by rw [k10]; omega, ?_⟩, by rw [ek r1 r3 41 (by decide) (by decide) (by decide)]; exact t4⟩, TRS_AK A2 (ms r1 r3)⟩)) (by omega) (c0 r1 r3)
      rw [ek r1 r3 16 (by decide) (by decide) (by decide), A2.2.2.2.1.1, uk H 16 (by decide)]
end JAD
