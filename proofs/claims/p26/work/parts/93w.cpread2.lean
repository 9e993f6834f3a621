/-- the tree maker of the class -/
def MKR (K : e3_H) (G : e3_G) : Prop := 139 ≤ (G.length : Int) ∧ GB G ∧ TRE (K 16 1) K G ∧ (∃ kl, DA (K 16 4) (K 16 1) G kl) ∧ ∀ j : Int, 0 ≤ j → j < 11 → K 1 j = x_wd j
theorem MKR_k {H K : e3_H} {G G2 : e3_G} (h : MKR H G) (hG : ∃ E, G2 = G ++ E) (e1 : K 16 1 = H 16 1) (e4 : K 16 4 = H 16 4) (et : ∀ x : Int, 4 ≤ x → x ≤ 9 → K (H 16 1) x = H (H 16 1) x) (ew : ∀ j : Int, K 1 j = H 1 j) : MKR K G2 := by
  obtain ⟨h1, h2, h3, ⟨kl, ⟨k1, k2⟩, k3, k4, k5⟩, h5⟩ := h
  have t := TRE_k h3 hG et
  obtain ⟨E, hE⟩ := hG
  subst hE
  refine ⟨by rw [List.length_append]; omega, ⟨ga_app h2.1, ga_app h2.2⟩, by rw [e1]; exact t, ⟨kl, ?_⟩, fun j j0 j1 => by rw [ew]; exact h5 j j0 j1⟩
  rw [e4, e1]
  exact ⟨⟨k1, ga_app k2⟩, k3, k4, k5⟩
theorem TS_MKR {nf : Nat} {H K : e3_H} {G G2 : e3_G} (h : MKR H G) (hT : TS nf K G2) (hG : ∃ E, G2 = G ++ E) (ew : ∀ j : Int, K 1 j = H 1 j) : MKR K G2 := by
  obtain ⟨h1, h2, _, _, h5⟩ := h
  obtain ⟨E, hE⟩ := hG
  subst hE
  exact ⟨by rw [List.length_append]; omega, ⟨ga_app h2.1, ga_app h2.2⟩, hT.1, hT.2.2.2.1, fun j j0 j1 => by rw [ew]; exact h5 j j0 j1⟩
/-- a text that the class holds -/
def TX (σ g : e3_H) (m nf : Nat) (Vs : Int → Int → Int → List (Int × Int)) (way km : Nat → Int) (N : Nat → List a_ND) (K : e3_H) (G : e3_G) : Prop := K 14 3 = (nf : Int) ∧ c_kd σ m K ∧ (∀ f : Nat, f < nf → FY σ g Vs f K G) ∧ TS nf K G ∧ CT σ g nf K G ∧ ∀ f : Nat, f < nf → TDf f (way f) (km f) (N f) K G
/-- what a read of the class may change -/
def RDf (H : e3_H) (G : e3_G) (K : e3_H) (G2 : e3_G) : Prop := (∃ E, G2 = G ++ E) ∧ (∀ a x : Int, a < 139 → a ≠ 2 → a ≠ 3 → ¬ (5 ≤ a ∧ a ≤ 25) → K a x = H a x) ∧ K 3 1 = 0 ∧ ∀ x : Int, x ≠ 6 → x ≠ 7 → x ≠ 8 → K 2 x = H 2 x
theorem FY_fu {σ g H : e3_H} {G : e3_G} {Vs : Int → Int → Int → List (Int × Int)} {f : Nat} (h : FY σ g Vs f H G) : 139 ≤ H 15 f ∧ g_at G (H 15 f) (108, 11) := by
  obtain ⟨cx, pn, cnt, mm, A, B, ⟨b1, _⟩, _⟩ := h
  exact b1
/-- a text that is held, over a write to the class's own few cells -/
theorem TX_lo {σ g : e3_H} {m nf : Nat} {Vs : Int → Int → Int → List (Int × Int)} {way km : Nat → Int} {N : Nat → List a_ND} {H K : e3_H} {G : e3_G} (h : TX σ g m nf Vs way km N H G) (e : ∀ a x : Int, 139 ≤ a ∨ (8 ≤ a ∧ a ≤ 25) → K a x = H a x) : TX σ g m nf Vs way km N K G := by
  obtain ⟨h1, h2, h3, h4, h5, h6⟩ := h
  have d3 : D3 H G K G := D3_lo (fun a x ha => e a x (by omega))
  refine ⟨by rw [e 14 3 (by decide)]; exact h1, ckd_eq h2 (fun a k ha => e a k (by omega)), fun f hf => FY_3 (h3 f hf) d3, ?_, CT_3 h5 d3, fun f hf => ?_⟩
  · exact TS_k h4 ⟨[], (List.append_nil _).symm⟩ (fun x => e 15 x (by decide)) (e 16 1 (by decide)) (e 16 4 (by decide)) (fun f hf => e _ _ (Or.inl (FY_fu (h3 f hf)).1)) (fun t ht x => e t x (by have := ht.1; omega))
  · have ht := (h4.2.1 f hf).1.1
    exact TDf_k (h6 f hf) (FY_fu (h3 f hf)).1 (FY_fu (h3 f hf)).2 d3 (e _ _ (Or.inl (FY_fu (h3 f hf)).1)) (fun a x a1 a2 => e a x (by omega))
section CPR
variable {Q : Int → e3_H → e3_G → Prop} {σ g K3 : e3_H} {G3 : e3_G} {m nf : Nat} {Vs : Int → Int → Int → List (Int × Int)} {mr0 kk : Nat → Nat} {N : Nat → List a_ND} {v : Int}
/-- trees are drawn behind the Rows -/
theorem cP_draw (hP : PX σ m nf Vs mr0 kk N) (hY : ∀ f : Nat, f < nf → FY σ g Vs f K3 G3) (hkd : c_kd σ m K3) (h143 : K3 14 3 = (nf : Int)) (hT : TS nf K3 G3) (hCT : CT σ g nf K3 G3) (h139 : 139 ≤ (G3.length : Int)) (hG : GB G3)
    (hok : (∀ f : Nat, f < nf → (N f).length ≤ 120) → ∀ (K : e3_H) (G : e3_G), D2 (e3_up K3 2 8 v) G3 K G → TX σ g m nf Vs (fun _ => 0) (fun _ => (m : Int)) N (e3_up (e3_up K 2 6 1) 2 7 (m : Int)) G → gz G ≤ gz G3 + 12 * (nf : Int) + s7 K3 nf → Q nf (e3_up (e3_up K 2 6 1) 2 7 (m : Int)) G)
    (hbad : (∃ f : Nat, f < nf ∧ 120 < (N f).length) → ∀ (K : e3_H) (G : e3_G), D2 (e3_up K3 2 8 v) G3 K G → TS nf K G → gz G ≤ gz G3 + 12 * (nf : Int) + s7 K3 nf → Q (-3) (e3_up (e3_up K 14 3 0) 8 0 0) G) : ∃ n, wP_read_53 Q n 0 (e3_up K3 2 8 v) G3 := by
  obtain ⟨p1, ⟨p2, p3⟩, p4, p5, p6, p7, p8⟩ := id hP
  have e : ∀ a x : Int, a ≠ 2 → e3_up K3 2 8 v a x = K3 a x := fun a x ha => e3_up_ne (ne_1 ha)
  have d3 : D3 K3 G3 (e3_up K3 2 8 v) G3 := D3_lo (fun a x ha => e a x (by omega))
  have hY' : ∀ f : Nat, f < nf → FY σ g Vs f (e3_up K3 2 8 v) G3 := fun f hf => FY_3 (hY f hf) d3
  have hT' : TS nf (e3_up K3 2 8 v) G3 := TS_k hT ⟨[], (List.append_nil _).symm⟩ (fun x => e 15 x (by decide)) (e 16 1 (by decide)) (e 16 4 (by decide)) (fun f hf => e _ _ (by have := (FY_fu (hY f hf)).1; omega)) (fun t ht x => e t x (by have := ht.1; omega))
  have es : ∀ f : Nat, f ≤ nf → s7 (e3_up K3 2 8 v) f = s7 K3 f := fun f hf => s7_eq f (fun f' hf' => by
    rw [e 15 _ (by decide)]; exact e _ _ (by have := (FY_fu (hY f' (by omega))).1; omega))
  have pos : ∀ f : Nat, f < nf → 0 ≤ K3 (K3 15 f) 7 := fun f hf => by
    obtain ⟨cx, pn, cnt, mm, A, B, ⟨_, _, b3, _⟩, _⟩ := hY f hf
    omega
  have smono : ∀ d f : Nat, f + d = nf → s7 K3 f ≤ s7 K3 nf := by
    intro d
    induction d with
    | zero => intro f hf; have hf : f = nf := hf; subst hf; exact Int.le_refl _
    | succ d ih =>
      intro f hf
      have := ih (f + 1) (by omega)
      have e7 : s7 K3 (f + 1) = s7 K3 f + K3 (K3 15 f) 7 := rfl
      have := pos f (by omega)
      omega
  have h74 : ∀ f : Nat, f < nf → ∀ k : Nat, (k : Int) < σ 70 f → 0 ≤ σ 74 (16 * (f : Int) + k) := fun f hf k hk => by
    obtain ⟨cx, pn, cnt, mm, A, B, ⟨_, _, _, _, _, b9, _⟩, h2, _⟩ := hY f hf
    exact (b9 k (by omega)).2.1
  have e80 : e3_up K3 2 8 v 8 0 = (m : Int) := by rw [e 8 0 (by decide)]; exact hkd.1
  refine ⟨nf + 1, cP_53 (σ := σ) (g := g) (H0 := e3_up K3 2 8 v) (G0 := G3) (m := m) (Vs := Vs) (mr0 := mr0) (kk := kk) (N := N) p1.2.1 h139 hG hY' (ckd_eq hkd (fun a k ha => e a k (by omega))) p1.2.2.2.2.1 (by rw [e 14 3 (by decide)]; exact h143) p6 (fun f hf => (p8 f hf).1) (fun f hf => ?_) (fun f hf => (p8 f hf).2.2) (fun hN K G hD hTS hTD hz => ?_) (fun hN K G hD hTS hz => ?_) nf 0 _ G3 (by omega) (D2_rf _ _) hT' (fun f' hf' => absurd hf' (Nat.not_lt_zero _)) (by show gz G3 ≤ gz G3 + 12 * 0 + 0; omega)⟩
  · have hr := RT_of (un := false) p1 p2 p5 hf (h74 f hf) (mr0 f) (by have := (p8 f hf).1; omega)
    exact ⟨fun w hw => (hr w hw).1, fun w hw => ⟨(hr w hw).2.1, (hr w hw).2.2.1⟩⟩
  · rw [e80] at hTD ⊢
    refine hok hN K G hD ?_ (by rw [es nf (Nat.le_refl _)] at hz; exact hz)
    refine TX_lo (H := K) ⟨by rw [hD.2.2 14 3 (by decide), e 14 3 (by decide)]; exact h143, ckd_eq hkd (fun a k ha => ?_), fun f hf => FY_D (hY' f hf) hD, hTS, CT_3 hCT (D3_tr d3 (D2_D3 hD)), hTD⟩ (fun a x ha => ?_)
    · rw [hD.2.2 a k (by omega)]; exact e a k (by omega)
    · rw [e3_up_ne (ne_1 (by omega)), e3_up_ne (ne_1 (by omega))]
  · refine hbad hN K G hD hTS ?_
    obtain ⟨f, hf, hz⟩ := hz
    rw [es (f + 1) (by omega)] at hz
    have := smono (nf - (f + 1)) (f + 1) (by omega)
    omega
end CPR
