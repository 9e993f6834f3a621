section CPW
variable {Q : Int → e3_H → e3_G → Prop} {t : Int → Int} {n : Nat} {σ H : e3_H} {G : e3_G}
theorem tx_low {K : e3_H} {G2 : e3_G} (h139 : 139 ≤ (G.length : Int)) (h : tx_fr H G K G2) : ∀ a x : Int, a < 139 → a ≠ 3 → ¬ (5 ≤ a ∧ a ≤ 15) → K a x = H a x := fun a x h1 h2 h3 => h.2.1 a x (by omega) (by simp only [List.mem_cons, List.not_mem_nil, or_false]; omega) (Or.inr h1)
theorem tx_tree {K : e3_H} {G2 : e3_G} (ht : TRE (H 16 1) H G) (h : tx_fr H G K G2) : ∀ x : Int, x ≠ 18 → K (H 16 1) x = H (H 16 1) x := fun x hx => h.2.1 _ x (ga_lt ht.2.1) (by have := ht.1; simp only [List.mem_cons, List.not_mem_nil, or_false]; omega) (Or.inl hx)
/-- read, of the class -/
theorem cP_read (hmk : MKR H G) (hn : H 3 1 = (n : Int)) (hn2 : n ≤ 1600) (ht : H 4 = t) (hb : ∀ k : Nat, k < n → -128 ≤ t k ∧ t k ≤ 127) (hI : H 2 6 = 0 → H 14 3 = 0 ∧ H 8 0 = 0) (h10 : σ 40 10 = 0) (h16 : σ 40 16 = 0) (h41 : σ 40 41 = 0)
    (hno : H 2 6 ≠ 0 → Q (-2) H G)
    (hfl : H 2 6 = 0 → ∀ (q : Int) (K : e3_H) (G2 : e3_G), a_text t n σ = .inl q → RDf H G K G2 → MKR K G2 → K 14 3 = 0 → K 8 0 = 0 → K 2 6 = 0 → K 2 7 = H 2 7 → gz G2 ≤ gz G + 2100 + 860 * (n : Int) → Q (e3_w32 ((-10) - q)) K G2)
    (hbad : H 2 6 = 0 → ∀ (σ3 : e3_H) (m nf : Nat) (Vs : Int → Int → Int → List (Int × Int)) (mr0 kk : Nat → Nat) (N : Nat → List a_ND) (K : e3_H) (G2 : e3_G), a_text t n σ = .inr σ3 → PX σ3 m nf Vs mr0 kk N → (∃ f : Nat, f < nf ∧ 120 < (N f).length) → RDf H G K G2 → MKR K G2 → K 14 3 = 0 → K 8 0 = 0 → K 2 6 = 0 → K 2 7 = H 2 7 → gz G2 ≤ gz G + 2100 + 860 * (n : Int) → Q (-3) K G2)
    (hok : H 2 6 = 0 → ∀ (σ3 g : e3_H) (m nf : Nat) (Vs : Int → Int → Int → List (Int × Int)) (mr0 kk : Nat → Nat) (N : Nat → List a_ND) (K : e3_H) (G2 : e3_G), a_text t n σ = .inr σ3 → PX σ3 m nf Vs mr0 kk N → (∀ f : Nat, f < nf → (N f).length ≤ 120) → RDf H G K G2 → MKR K G2 → TX σ3 g m nf Vs (fun _ => 0) (fun _ => (m : Int)) N K G2 → C8 nf K → K 2 6 = 1 → K 2 7 = (m : Int) → gz G2 ≤ gz G + 2100 + 860 * (n : Int) → Q nf K G2) : wP_read Q H G := by
  unfold wP_read
  by_cases h26 : H 2 6 = 0
  case neg => exact brF h26 (hno h26)
  have hfl := hfl h26
  have hbad := hbad h26
  have hok := hok h26
  obtain ⟨i1, i2⟩ := hI h26
  obtain ⟨m1, m2, m3, m4, m5⟩ := id hmk
  refine brT h26 (cR_readText (σ := σ) hn hn2 m5 ht hb m1 i1 i2 h10 h16 h41 (fun σ1 σ2 σ3 g H1 K G2 m nf s j ha hs htk hkd hF1 hFS h18 hce hF hW e1 e2 h139 htx hz => ?_) (fun q K G2 s ha hs z1 z2 htx hz => ?_))
  · obtain ⟨hz1, hz2, hz3, hz4⟩ := hz
    have hlow := tx_low m1 htx
    refine cR_lay (G := G) (H := H) ha h10 h16 h41 htk.2.1 hkd hFS h18 hce hF hW ⟨e1.1, e1.2, hF1.1⟩ e2 h139 hz2 htx.1 hz4 m3 m4 (fun x => hlow 16 x (by decide) (by decide) (by decide)) (tx_tree m3 htx) (fun Vs mr0 kk N K3 G3 hP hY hkd3 h143 hTS hCT hRF hc8 hs3 hgz => ?_)
    refine brF (by decide) ⟨Or.inr rfl, ?_⟩
    intro H4 e4
    refine brF (by decide) ?_
    rw [e4]
    have hE3 : ∃ E, G3 = G ++ E := by
      obtain ⟨E1, x1⟩ := htx.1
      obtain ⟨E2, x2⟩ := hRF.1
      exact ⟨E1 ++ E2, by rw [x2, x1, List.append_assoc]⟩
    have h139' : 139 ≤ (G3.length : Int) := by obtain ⟨E, x⟩ := hE3; rw [x, List.length_append]; omega
    have hGB : GB G3 := by obtain ⟨E, x⟩ := hE3; rw [x]; exact ⟨ga_app m2.1, ga_app m2.2⟩
    have lo3 : ∀ a x : Int, a < 139 → a ≠ 3 → ¬ (5 ≤ a ∧ a ≤ 15) → K3 a x = H a x := fun a x h1 h2 h3 => (hRF.2.2 a x h1).trans (hlow a x h1 h2 h3)
    have fr : ∀ (K4 K5 : e3_H) (G4 : e3_G), D2 (e3_up K3 2 8 (K3 14 4)) G3 K4 G4 → (∀ a x : Int, a ≠ 8 → a ≠ 14 → ¬ (a = 2 ∧ (x = 6 ∨ x = 7)) → K5 a x = K4 a x) → RDf H G K5 G4 := fun K4 K5 G4 hD e5 => by
      obtain ⟨E1, x1⟩ := hE3
      obtain ⟨E2, x2⟩ := hD.1
      refine ⟨⟨E1 ++ E2, by rw [x2, x1, List.append_assoc]⟩, fun a x a1 a2 a3 a4 => ?_, ?_, fun x x6 x7 x8 => ?_⟩
      · rw [e5 a x (by omega) (by omega) (fun z => a2 z.1), hD.2.2 a x (by omega), e3_up_ne (ne_1 a2)]
        exact lo3 a x a1 a3 (by omega)
      · rw [e5 3 1 (by decide) (by decide) (fun z => absurd z.1 (by decide)), hD.2.2 3 1 (by decide), e3_up_ne (ne_1 (by decide)), hRF.2.2 3 1 (by decide)]
        exact htx.2.2.1
      · rw [e5 2 x (by decide) (by decide) (fun z => by omega), hD.2.2 2 x (by decide), e3_up_ne (ne_2 x8)]
        exact lo3 2 x (by decide) (by decide) (by decide)
    have h6 := hz3
    refine cP_draw (v := K3 14 4) hP hY hkd3 h143 hTS hCT h139' hGB (fun hN K4 G4 hD hTX hz4 => ?_) (fun hN K4 G4 hD hT4 hz4 => ?_)
    · have hR := fr K4 (e3_up (e3_up K4 2 6 1) 2 7 (m : Int)) G4 hD (fun a x _ _ hx => by
        rw [e3_up_ne (fun z => hx ⟨z.1, Or.inr z.2⟩), e3_up_ne (fun z => hx ⟨z.1, Or.inl z.2⟩)])
      refine hok σ3 g m nf Vs mr0 kk N _ G4 ha hP hN hR (TS_MKR hmk hTX.2.2.2.1 hR.1 (fun j => hR.2.1 1 j (by decide) (by decide) (by decide) (by decide))) hTX (fun f hf => ?_) ?_ (e3_up_self ..) (by omega)
      · have hfu := FY_fu (hY f hf)
        have e15 : e3_up (e3_up K4 2 6 1) 2 7 (m : Int) 15 f = K3 15 f := by rw [e3_up_ne (ne_1 (by decide)), e3_up_ne (ne_1 (by decide)), hD.2.2 15 f (by decide), e3_up_ne (ne_1 (by decide))]
        rw [e15, e3_up_ne (ne_1 (by omega)), e3_up_ne (ne_1 (by omega)), hD.2.1 _ 7 _ _ hfu.2 (okt_d (by decide) (by decide) (by decide) (Or.inr (by decide))), e3_up_ne (ne_1 (by omega))]
        exact hc8 f hf
      · rw [e3_up_ne (ne_2 (by decide))]
        exact e3_up_self ..
    · have hR := fr K4 (e3_up (e3_up K4 14 3 0) 8 0 0) G4 hD (fun a x a8 a14 _ => by
        rw [e3_up_ne (ne_1 a8), e3_up_ne (ne_1 a14)])
      have e4 : ∀ a x : Int, a ≠ 8 → a ≠ 14 → e3_up (e3_up K4 14 3 0) 8 0 0 a x = K4 a x := fun a x a1 a2 => by rw [e3_up_ne (ne_1 a1), e3_up_ne (ne_1 a2)]
      refine hbad σ3 m nf Vs mr0 kk N _ G4 ha hP hN hR ?_ ?_ (e3_up_self ..) ?_ (by rw [e4 2 7 (by decide) (by decide), hD.2.2 2 7 (by decide), e3_up_ne (ne_2 (by decide))]; exact lo3 2 7 (by decide) (by decide) (by decide)) (by omega)
      · obtain ⟨E, x⟩ := hR.1
        have t4 := hT4.1
        obtain ⟨kl, k1⟩ := hT4.2.2.2.1
        refine ⟨by rw [x, List.length_append]; omega, by rw [x]; exact ⟨ga_app m2.1, ga_app m2.2⟩, ?_, ⟨kl, ?_⟩, fun j j0 j1 => by rw [hR.2.1 1 j (by decide) (by decide) (by decide) (by decide)]; exact m5 j j0 j1⟩
        · rw [e4 16 1 (by decide) (by decide)]
          exact TRE_k t4 ⟨[], (List.append_nil _).symm⟩ (fun x _ _ => e4 _ _ (by have := t4.1; omega) (by have := t4.1; omega))
        · rw [e4 16 1 (by decide) (by decide), e4 16 4 (by decide) (by decide)]; exact k1
      · rw [e3_up_ne (ne_1 (by decide))]; exact e3_up_self ..
      · rw [e4 2 6 (by decide) (by decide), hD.2.2 2 6 (by decide), e3_up_ne (ne_2 (by decide)), lo3 2 6 (by decide) (by decide) (by decide)]
        exact h26
  · intro H4 e4
    refine brT rfl ?_
    intro H5 e5
    intro H6 e6
    have hlow := tx_low m1 htx
    have e : ∀ a x : Int, a ≠ 8 → a ≠ 14 → ¬ (a = 2 ∧ x = 8) → H6 a x = K a x := fun a x a1 a2 a3 => by rw [e6, e3_up_ne (ne_1 a1), e5, e3_up_ne (ne_1 a2), e4, e3_up_ne a3]
    have hq : H6 14 5 = q := by rw [e6, e3_up_ne (ne_1 (by decide)), e5, e3_up_ne (ne_2 (by decide)), e4, e3_up_ne (ne_1 (by decide))]; exact z2
    rw [hq]
    refine hfl q H6 G2 ha ⟨htx.1, fun a x a1 a2 a3 a4 => ?_, ?_, fun x x6 x7 x8 => ?_⟩ ?_ ?_ ?_ ?_ (by rw [e 2 7 (by decide) (by decide) (fun z => absurd z.2 (by decide))]; exact hlow 2 7 (by decide) (by decide) (by decide)) (by omega)
    · rw [e a x (by omega) (by omega) (fun z => a2 z.1)]; exact hlow a x a1 a3 (by omega)
    · rw [e 3 1 (by decide) (by decide) (fun z => absurd z.1 (by decide))]; exact htx.2.2.1
    · rw [e 2 x (by decide) (by decide) (fun z => x8 z.2)]; exact hlow 2 x (by decide) (by decide) (by decide)
    · refine MKR_k hmk htx.1 ?_ ?_ (fun x _ x9 => ?_) (fun j => ?_)
      · rw [e 16 1 (by decide) (by decide) (fun z => absurd z.1 (by decide))]; exact hlow 16 1 (by decide) (by decide) (by decide)
      · rw [e 16 4 (by decide) (by decide) (fun z => absurd z.1 (by decide))]; exact hlow 16 4 (by decide) (by decide) (by decide)
      · have h17 := m3.1
        rw [e _ _ (by omega) (by omega) (fun z => by omega)]
        exact tx_tree m3 htx x (by omega)
      · rw [e 1 j (by decide) (by decide) (fun z => absurd z.1 (by decide))]; exact hlow 1 j (by decide) (by decide) (by decide)
    · rw [e6, e3_up_ne (ne_1 (by decide)), e5]; exact e3_up_self ..
    · rw [e6]; exact e3_up_self ..
    · rw [e 2 6 (by decide) (by decide) (fun z => absurd z.2 (by decide)), hlow 2 6 (by decide) (by decide) (by decide)]; exact h26
end CPW
