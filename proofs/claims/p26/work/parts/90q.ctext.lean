/-- what reading a text may change -/
def tx_fr (H : e3_H) (G : e3_G) (K : e3_H) (G2 : e3_G) : Prop := (∃ E, G2 = G ++ E) ∧ (∀ a k : Int, a < G.length → a ∉ [3, 5, 6, 7, 8, 9, 10, 11, 12, 13, 14, 15] → (k ≠ 18 ∨ a < 139) → K a k = H a k) ∧ K 3 1 = 0 ∧ ∀ k : Int, k < 3 ∨ 7 < k → K 14 k = H 14 k
section CTX
variable {m nf n s : Nat} {t : Int → Int} {H K K2 K3 : e3_H} {G G2 : e3_G} {q : Int}
theorem tx_kn (h : x_A [3, 5, 6, 7] H K) (h1 : K 3 1 = 0) (h2 : kn_fr (e3_up (e3_up K 14 4 0) 14 5 0) K2) : tx_fr H G K2 G := by
  obtain ⟨k1, k2, k3⟩ := h2
  refine ⟨⟨[], by rw [List.append_nil]⟩, fun a k _ ha _ => ?_, ?_, fun k hk => ?_⟩
  · simp only [List.mem_cons, List.not_mem_nil, or_false, not_or] at ha
    obtain ⟨a1, a2, a3, a4, a5, a6, a7, a8, a9, a10, a11, a12⟩ := ha
    rw [k1 a k (by simp only [List.mem_cons, List.not_mem_nil, or_false, not_or]; exact ⟨a1, a5, a6, a7, a8, a9, a10, a11⟩), e3_up_ne (ne_1 a11), e3_up_ne (ne_1 a11)]
    exact h a k (by simp only [List.mem_cons, List.not_mem_nil, or_false, not_or]; exact ⟨a1, a2, a3, a4⟩)
  · rw [k2 1 (by decide), e3_up_ne (ne_1 (by decide)), e3_up_ne (ne_1 (by decide))]; exact h1
  · rw [k3 k (by omega) (by omega), e3_up_ne (fun z => by have := z.2; omega), e3_up_ne (fun z => by have := z.2; omega)]
    exact h 14 k (by decide)
theorem tx_Y (h : tx_fr H G K G) (h2 : c_Y K G K2 G2) : tx_fr H G K2 G2 := by
  obtain ⟨_, a2, a3, a4⟩ := h
  obtain ⟨b1, b2, b3, b4⟩ := h2
  refine ⟨b1, fun a k hl ha hk => ?_, by rw [b3 1 (by decide)]; exact a3, fun k hk => (b4 k hk).trans (a4 k hk)⟩
  rw [b2 a k hl (fun z => ha (by rw [z]; decide)) (fun z => ha (by rw [z]; decide)) (fun z => ha (by rw [z]; decide))]
  exact a2 a k hl ha hk
theorem tx_18 (h : tx_fr H G K G2) (h2 : c_18 G2 K K2) : tx_fr H G K2 G2 := by
  obtain ⟨a1, a2, a3, a4⟩ := h
  exact ⟨a1, fun a k hl ha hk => (h2.1 a k hk).trans (a2 a k hl ha hk), by rw [h2.1 3 1 (Or.inr (by decide))]; exact a3, fun k hk => (h2.1 14 k (Or.inr (by decide))).trans (a4 k hk)⟩
theorem tx_f (h : tx_fr H G K G2) (h2 : c_flt q K K2) : tx_fr H G K2 G2 := by
  obtain ⟨a1, a2, a3, a4⟩ := h
  obtain ⟨_, _, f3, f4⟩ := h2
  have at2 : ∀ a k : Int, a ≠ 14 → K2 a k = K a k := fun a k ha => f4 a k (by simp only [List.mem_cons, List.not_mem_nil, or_false]; exact ha)
  exact ⟨a1, fun a k hl ha hk => (at2 a k (fun z => ha (by rw [z]; decide))).trans (a2 a k hl ha hk), by rw [at2 3 1 (by decide)]; exact a3, fun k hk => (f3 k (by omega) (by omega)).trans (a4 k hk)⟩
/-- a text of the class is read and judged: as the abstract text; what is left is laying rows -/
theorem cR_readText {Q : Int → e3_H → e3_G → Prop} {σ : e3_H} (hn : H 3 1 = (n : Int)) (hn2 : n ≤ 1600) (hw : ∀ j : Int, 0 ≤ j → j < 11 → H 1 j = x_wd j) (ht : H 4 = t) (hb : ∀ k : Nat, k < n → -128 ≤ t k ∧ t k ≤ 127) (h139 : 139 ≤ (G.length : Int)) (h143 : H 14 3 = 0) (h80 : H 8 0 = 0) (h10 : σ 40 10 = 0) (h16 : σ 40 16 = 0) (h41 : σ 40 41 = 0)
    (hok : ∀ (σ1 σ2 σ3 g H1 K : e3_H) (G2 : e3_G) (m nf s j : Nat), a_text t n σ = .inr σ3 → s ≤ n + 1 → c_tk t n s j H1 → c_kd σ1 m H1 → F_inv σ1 m nf → c_FS nf σ1 g H1 G2 → c_18 G2 H1 K → c_ce nf nf 0 σ2 H1 K → F_inv σ3 m nf → (WF σ3 nf ∧ NZ σ3 nf) ∧ RWS σ3 nf ∧ σ3 40 16 ≤ (s : Int) → ((∀ a x : Int, a ≠ 80 → σ2 a x = σ1 a x) ∧ a_jfs nf 0 σ1 = .inr σ2) → (∀ a x : Int, a ≠ 71 → σ3 a x = σ2 a x) → 139 ≤ (G2.length : Int) → tx_fr H G K G2 → (gz G2 ≤ gz G + 400 * (s : Int) ∧ 2 * s7 H1 nf ≤ (nf : Int) + s ∧ 6 * (nf : Int) ≤ s ∧ ∀ f : Nat, f < nf → (G.length : Int) ≤ H1 15 f) → ∃ n, wR_layRows_43 (fun x9 H7 G8 => (((x9 : Int) = 0 → (wR_readText_126 Q H7 G8)) ∧ (¬ ((x9 : Int) = 0) → (wR_readText_127 Q 1 H7 G8)))) n 0 K G2)
    (hfl : ∀ (q : Int) (K : e3_H) (G2 : e3_G) (s : Nat), a_text t n σ = .inl q → s ≤ n + 1 → K 14 4 ≠ 0 → K 14 5 = q → tx_fr H G K G2 → gz G2 ≤ gz G + 1243 + 400 * ((s : Int) + 1) → Q 0 K G2) : wR_readText Q H G := by
  unfold wR_readText wR_begin
  subst ht
  refine cT_cut hn hn2 hw hb (fun s H1 hc ha h31 hA => ?_)
  intro H4 e4 H5 e5
  have hs := hc.2.2.1
  have x5 : ∀ a k : Int, a ≠ 14 → H5 a k = H1 a k := fun a k hz => by rw [e5, e3_up_ne (ne_1 hz), e4, e3_up_ne (ne_1 hz)]
  have e5' : H5 = e3_up (e3_up H1 14 4 0) 14 5 0 := by rw [e5, e4]
  have htk : c_tk (H 4) n s 0 H5 := by
    obtain ⟨c1, c2, c3, c4, c5, c6⟩ := hc
    obtain ⟨b1, b2, b3, b4, b5⟩ := ha
    refine ⟨by rw [x5 _ _ (by decide)]; exact c1, by omega, fun j hj => ?_, c5, c6, by rw [x5 _ _ (by decide)]; exact b1, b2, by rw [x5 _ _ (by decide), x5 _ _ (by decide)]; exact b3, by rw [x5 _ _ (by decide), x5 _ _ (by decide)]; exact b4, by rw [x5 _ _ (by decide), x5 _ _ (by decide)]; exact b5⟩
    rw [x5 _ _ (by decide), x5 _ _ (by decide), x5 _ _ (by decide)]
    exact c4 j hj
  have k0 : k_inv σ 0 := ⟨h10, by omega, fun j l hj => by omega, fun k hk => by omega, fun k hk => by omega⟩
  have kd0 : c_kd σ 0 H5 := ⟨by rw [x5 _ _ (by decide), hA 8 0 (by decide)]; exact h80, fun k hk => by omega⟩
  unfold a_text at hok hfl
  refine ⟨26, cR_knds 25 0 0 σ H5 (by omega) htk kd0 k0 h16 h41 (kn_rf H5) (fun j σ1 m K hr htk1 hkd1 hF1 h161 hkn => ?_) (fun q K hr z1 z2 hkn => ?_)⟩
  · have hT : tx_fr H G K G := tx_kn hA h31 (by rw [← e5']; exact hkn)
    rw [hr] at hok hfl
    simp only at hok hfl
    have k143 : K 14 3 = 0 := by
      rw [hkn.2.2 3 (by decide) (by decide), e5, e3_up_ne (fun z => absurd z.2 (by decide)), e4, e3_up_ne (fun z => absurd z.2 (by decide)), hA 14 3 (by decide)]
      exact h143
    have hj : (0 : Int) ≤ j := Int.natCast_nonneg j
    refine ⟨14, cR_funs (m := m) (H0 := K) (G0 := G) (i0 := j) (P := gz G) 13 j 0 σ1 (fun _ _ => 0) K G (by omega) htk1 hkd1 hF1 (by omega) ⟨⟨k143, by omega, fun f hf => by omega⟩, fun f hf => by omega⟩ h139 (c_Y_rf K G) (by omega) ⟨by omega, by show (0 : Int) ≤ _; omega, by omega, fun f hf => by omega⟩ (fun j2 σ2 K2 G2 g2 nf hr2 htk2 hkd2 hF2 hFS2 h1392 hY hgz => ?_) (fun q K2 G2 hr2 hb2 hgz => hfl q K2 G2 s (by rw [hr2]) hs hb2.1 hb2.2.1 (tx_Y hT hb2.2.2) (by omega))⟩
    simp only [hr2] at hok hfl
    unfold a_judge at hok hfl
    rw [F_nf hF2] at hok hfl
    have hT2 := tx_Y hT hY
    have hJ := FS_JL hF2 hFS2
    have hj2 : (j2 : Int) ≤ s := by have := htk2.2.2.2.2.2.2.1; omega
    refine ⟨nf + 1, cR_jfs (m := m) nf 0 σ2 K2 (by omega) hF2 hkd2 hJ ⟨fun _ _ _ => rfl, fun _ _ _ _ _ _ => rfl⟩ (fun f' k' hlt => by omega) (fun σ3 he K3 h183 hce => brF (by decide) ?_) (fun q he K3 K4 h183 hf => brT rfl ⟨Or.inl rfl, hfl q K4 G2 s (by rw [he]) hs hf.1 hf.2.1 (tx_f (tx_18 hT2 h183) hf) (by omega)⟩)⟩
    simp only [he] at hok hfl
    obtain ⟨c1, c2⟩ := a_jfs_ok nf 0 σ2 σ3 he hF2
    refine ⟨nf + 1, cR_rfs (m := m) c1 (jfs_JL hJ c2) h183 nf 0 σ3 (by omega) (fun _ _ _ => rfl) (fun σ4 he4 => ?_) (fun q he4 K4 hf => brT rfl ⟨Or.inl rfl, hfl q K4 G2 s he4 hs hf.1 hf.2.1 (tx_f (tx_18 hT2 h183) hf) (by omega)⟩)⟩
    obtain ⟨d1, d2⟩ := a_rfs_ok nf 0 σ3 σ4 he4 c1
    exact hok σ2 σ3 σ4 g2 K2 K3 G2 m nf s j2 he4 hs htk2 hkd2 hF2 hFS2 h183 hce d1 ⟨W_keep (fun a x z1 z2 => (d2 a x z1).trans (c2 a x z2)) (funs_W hr2 hF1 (by omega) hF2), RWS_of he4, by rw [d2 40 16 (by decide), c2 40 16 (by decide)]; have := funs_16 (m := m) 13 j 0 σ1 j2 σ2 hr2 hF1 (by omega); omega⟩ ⟨c2, he⟩ d2 h1392 (tx_18 hT2 h183) ⟨by omega, by omega, by omega, hgz.2.2.2⟩
  · exact hfl q K G s (by rw [hr]) hs z1 z2 (tx_kn hA h31 (by rw [← e5']; exact hkn)) (by omega)
end CTX
