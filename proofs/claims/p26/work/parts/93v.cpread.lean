/-- what a text that is taken has, in the abstract -/
def PX (σ : e3_H) (m nf : Nat) (Vs : Int → Int → Int → List (Int × Int)) (mr0 kk : Nat → Nat) (N : Nat → List a_ND) : Prop := F_inv σ m nf ∧ (WF σ nf ∧ NZ σ nf) ∧ RWS σ nf ∧ VS σ nf Vs ∧ KP σ m ∧ σ 40 16 ≤ 1700 ∧ ∀ f : Nat, f < nf → σ 70 f = (mr0 f : Int) ∧ RM σ f (mr0 f) (Vs f) ∧ gr σ m (RR σ f (Vs f) false (mr0 f)) 0 (kk f) [] (N f)
/-- places of FUNCTIONS are few -/
def C8 (nf : Nat) (K : e3_H) : Prop := ∀ f : Nat, f < nf → K (K 15 f) 7 ≤ 806
/-- what the class keeps of a text from reading it -/
def CT (σ g : e3_H) (nf : Nat) (K : e3_H) (G : e3_G) : Prop := ∃ (σ1 σ2 H1 K1 : e3_H) (G1 : e3_G), c_FS nf σ1 g H1 G1 ∧ c_18 G1 H1 K1 ∧ c_ce nf nf 0 σ2 H1 K1 ∧ ((∀ a x : Int, a ≠ 80 → σ2 a x = σ1 a x) ∧ a_jfs nf 0 σ1 = .inr σ2 ∧ σ1 40 41 = (nf : Int)) ∧ (∀ a x : Int, (46 ≤ a ∧ a ≤ 58) ∨ (67 ≤ a ∧ a ≤ 85) → a ≠ 71 → σ a x = σ2 a x) ∧ (∃ E, G = G1 ++ E) ∧ (∀ (b x : Int) (c n : Nat), g_at G1 b (c, n) → 139 ≤ b → okt c n x → c ≠ 6 → c ≠ 108 ∨ x ≠ 5 → K b x = K1 b x) ∧ ∀ x : Int, K 15 x = K1 15 x
theorem CT_3 {σ g K K2 : e3_H} {nf : Nat} {G G2 : e3_G} (h : CT σ g nf K G) (hr : D3 K G K2 G2) : CT σ g nf K2 G2 := by
  obtain ⟨σ1, σ2, H1, K1, G1, h1, h2, h3, h4, h5, ⟨E, h6⟩, h7, h8⟩ := h
  obtain ⟨⟨E2, r1⟩, r2, r3⟩ := hr
  refine ⟨σ1, σ2, H1, K1, G1, h1, h2, h3, h4, h5, ⟨E ++ E2, by rw [r1, h6, List.append_assoc]⟩, fun b x c n hb h9 ho a1 a2 => ?_, fun x => (r3 x).trans (h8 x)⟩
  rw [r2 b x c n (by rw [h6]; exact ga_app hb) h9 ho]
  exact h7 b x c n hb h9 ho a1 a2
theorem ckd_sg {σ σ2 : e3_H} {m : Nat} {H : e3_H} (h : c_kd σ m H) (e : ∀ a x : Int, 42 ≤ a → a ≤ 45 → σ2 a x = σ a x) : c_kd σ2 m H := by
  refine ⟨h.1, fun k hk => ?_⟩
  have e43 : σ2 43 = σ 43 := funext fun x => e 43 x (by decide) (by decide)
  rw [e 42 _ (by decide) (by decide), e43, e 44 _ (by decide) (by decide)]
  obtain ⟨a, b, c, d, e'⟩ := h.2 k hk
  exact ⟨a, b, c, fun i hi => by rw [e 45 _ (by decide) (by decide)]; exact d i hi, e'⟩
section CLY
variable {Q : Int → e3_H → e3_G → Prop} {t : Int → Int} {n m nf s : Nat} {σ σ1 σ2 σ3 g H H1 K : e3_H} {G G2 : e3_G}
/-- Rows are laid, behind the judged text -/
theorem cR_lay (ha : a_text t n σ = .inr σ3) (h10 : σ 40 10 = 0) (h16 : σ 40 16 = 0) (h41 : σ 40 41 = 0) (hs : s ≤ 1601) (hkd : c_kd σ1 m H1) (hFS : c_FS nf σ1 g H1 G2) (h18 : c_18 G2 H1 K) (hce : c_ce nf nf 0 σ2 H1 K) (hF : F_inv σ3 m nf) (hW : (WF σ3 nf ∧ NZ σ3 nf) ∧ RWS σ3 nf ∧ σ3 40 16 ≤ (s : Int)) (e1 : (∀ a x : Int, a ≠ 80 → σ2 a x = σ1 a x) ∧ a_jfs nf 0 σ1 = .inr σ2 ∧ σ1 40 41 = (nf : Int)) (e2 : ∀ a x : Int, a ≠ 71 → σ3 a x = σ2 a x) (h139 : 139 ≤ (G2.length : Int)) (hs7 : 2 * s7 H1 nf ≤ (nf : Int) + s)
    (hE : ∃ E, G2 = G ++ E) (hnew : ∀ f : Nat, f < nf → (G.length : Int) ≤ H1 15 f) (ht : TRE (H 16 1) H G) (hA : ∃ kl, DA (H 16 4) (H 16 1) G kl) (e16 : ∀ x : Int, K 16 x = H 16 x) (et : ∀ x : Int, x ≠ 18 → K (H 16 1) x = H (H 16 1) x)
    (hQ : ∀ (Vs : Int → Int → Int → List (Int × Int)) (mr0 kk : Nat → Nat) (N : Nat → List a_ND) (K3 : e3_H) (G3 : e3_G), PX σ3 m nf Vs mr0 kk N → (∀ f : Nat, f < nf → FY σ3 g Vs f K3 G3) → c_kd σ3 m K3 → K3 14 3 = (nf : Int) → TS nf K3 G3 → CT σ3 g nf K3 G3 → RF K G2 K3 G3 → C8 nf K3 → s7 K3 nf = s7 H1 nf → gz G3 ≤ gz G2 + 40 * (61 * (nf : Int) + 2 * s7 H1 nf) → Q 1 K3 G3) : ∃ n, wR_layRows_43 Q n 0 K G2 := by
  have h12 := hF.2.1
  have e : ∀ a x : Int, a ≠ 80 → a ≠ 71 → σ3 a x = σ1 a x := fun a x h1 h2 => (e2 a x h2).trans (e1.1 a x h1)
  obtain ⟨⟨z1, z2, z3⟩, z4⟩ := id hFS
  have F70 : ∀ f : Nat, f < nf → 0 ≤ σ3 70 f ∧ σ3 70 f ≤ 16 := fun f hf => (hF.2.2.2.1 f (by omega) (by omega)).2.2.1
  have h74 : ∀ f k : Int, 0 ≤ f → f < nf → 0 ≤ k → k < σ3 70 f → 0 ≤ σ3 74 (16 * f + k) := fun f k f0 f1 k0 k1 => by
    obtain ⟨cx, _, _, _, _, p8, _⟩ := z4 f.toNat (by omega)
    have ef : ((f.toNat : Nat) : Int) = f := by omega
    rw [ef] at p8
    obtain ⟨r1, lo, hi, r2, r3, r4⟩ := p8 k.toNat (by rw [← e 70 _ (by decide) (by decide)]; omega)
    obtain ⟨⟨_, _, hwy, _⟩, _⟩ := r3
    rw [show ((k.toNat : Nat) : Int) = k by omega] at hwy
    rw [e 74 _ (by decide) (by decide)]
    obtain ⟨⟨h1, h2⟩, h3⟩ := hwy
    split at h3 <;> omega
  obtain ⟨Vs, hV⟩ := VS_ex hF hW.1.1 hW.2.1 h74
  have hX := FX_of e hF hFS h18 hW.1 hW.2.1 hV (by omega)
  have hfu : ∀ f : Nat, f < nf → 139 ≤ H1 15 f ∧ g_at G2 (H1 15 f) (108, 11) := fun f hf => (z3 f hf).1
  have k15 : ∀ x : Int, K 15 x = H1 15 x := fun x => h18.1 15 x (Or.inr (by decide))
  have hKP : KP σ3 m := KP_text ha h10 h16 h41 hF
  have sK : s7 K nf = s7 H1 nf := s7_eq nf (fun f hf => by
    rw [k15, h18.1 _ 7 (Or.inl (by decide))])
  have hgr : ∀ f : Nat, ∃ kN : Nat × List a_ND, gr σ3 m (RR σ3 f (Vs f) false (σ3 70 f).toNat) 0 kN.1 [] kN.2 := fun f => by
    obtain ⟨k, N, h⟩ := gr_ex (σ := σ3) (m := m) (R := RR σ3 f (Vs f) false (σ3 70 f).toNat) (way := 0) (mu [] (RR σ3 f (Vs f) false (σ3 70 f).toNat)) [] (Nat.le_refl _)
    exact ⟨(k, N), h⟩
  obtain ⟨kN, hkN⟩ := Classical.axiomOfChoice hgr
  refine ⟨nf + 1, cR_43 (σ := σ3) (g := g) (H0 := K) (G0 := G2) (Vs := Vs) hF.2.2.1 h12 h139 (by rw [h18.1 14 3 (Or.inr (by decide))]; exact z1) (fun f hf => by rw [k15]; exact (hfu f hf).2) (fun K3 G3 hY hr hz => ?_) nf 0 K G2 (by omega) (fun f hf => absurd hf (Nat.not_lt_zero _)) (fun f _ hf => hX f hf) (RF_rf K G2) (by show gz G2 ≤ gz G2 + 40 * (61 * 0 + 2 * 0); omega)⟩
  have k315 : ∀ x : Int, K3 15 x = K 15 x := fun x => hr.2.2 15 x (by decide)
  have s3 : s7 K3 nf = s7 H1 nf := by
    rw [← sK]
    refine s7_eq nf (fun f hf => ?_)
    rw [k315]
    exact hr.2.1 _ 7 _ _ (by rw [k15]; exact (hfu f hf).2) (by decide) (Or.inr (by decide))
  have hm0 : ∀ f : Nat, f < nf → σ3 70 f = ((σ3 70 f).toNat : Int) := fun f hf => by have := F70 f hf; omega
  have hc : ∀ f : Nat, f < nf → K3 (K3 15 f) 7 ≤ 806 := fun f hf => by
    have pos : ∀ f : Nat, f < nf → 0 ≤ K3 (K3 15 f) 7 := fun f hf => by
      obtain ⟨cx, pn, cnt, mm, A, B, ⟨_, _, b3, _⟩, _⟩ := hY f hf
      omega
    have := (s7_le nf pos).2 f hf
    omega
  rw [sK] at hz
  refine hQ Vs (fun f => (σ3 70 f).toNat) (fun f => (kN f).1) (fun f => (kN f).2) K3 G3 ⟨hF, hW.1, hW.2.1, hV, hKP, by omega, fun f hf => ⟨hm0 f hf, RM_of hF hW.1.1 hV hf (by omega) (hm0 f hf) (hY f hf) (hc f hf), hkN f⟩⟩ hY ?_ ?_ ?_ ?_ hr hc s3 hz
  · refine ckd_sg (ckd_eq hkd (fun a k ha => ?_)) (fun a x _ _ => e a x (by omega) (by omega))
    rw [hr.2.2 a k (by omega)]
    exact h18.1 a k (Or.inr (by omega))
  · rw [hr.2.2 14 3 (by decide), h18.1 14 3 (Or.inr (by decide))]; exact z1
  · refine TS_0 (σ := σ1) (g := g) (H := H) (H1 := H1) (K := K) (G := G) (G2 := G2) ?_ hFS h18 hr hE hnew ht hA (fun x => by rw [hr.2.2 16 x (by decide)]; exact e16 x) (fun x hx => ?_)
    · intro j l hj hl hjl
      exact hF.2.2.1 j l hj hl (by rw [e 67 _ (by decide) (by decide), e 67 _ (by decide) (by decide)]; exact hjl)
    · obtain ⟨E, hE⟩ := hE
      rw [hr.2.1 _ x _ _ (by rw [hE]; exact ga_app ht.2.1) (by decide) (Or.inl (by decide))]
      exact et x hx
  · exact ⟨σ1, σ2, H1, K, G2, hFS, h18, hce, e1, fun a x _ h => e2 a x h, hr.1, fun b x c n hb _ _ h6 h5 => hr.2.1 b x c n hb h6 h5, k315⟩
end CLY
