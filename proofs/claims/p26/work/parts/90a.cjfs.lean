section CCE
variable {m nf : Nat}
/-- what judging needs of all rules -/
def c_JL (nf : Nat) (σ H : e3_H) (G : e3_G) : Prop := c_FL nf σ H G ∧ ∀ f : Nat, f < nf → H (H 15 f) 3 = σ 70 f ∧ (139 ≤ H (H 15 f) 4 ∧ g_at G (H (H 15 f) 4) (5, 16)) ∧ ∀ k : Nat, (k : Int) < σ 70 f → (139 ≤ H (H (H 15 f) 4) k ∧ g_at G (H (H (H 15 f) 4) k) (109, 19)) ∧ H (H (H (H 15 f) 4) k) 11 = σ 79 (16 * (f : Int) + k) ∧ (σ 79 (16 * (f : Int) + k) = 2 → c_ca σ H G (16 * (f : Int) + k) (H (H (H 15 f) 4) k)) ∧ c_wy (H (H (H (H 15 f) 4) k) 3) (σ 74 (16 * (f : Int) + k)) ∧ H (H (H (H 15 f) 4) k) 1 = σ 73 (16 * (f : Int) + k)
theorem FS_JL {σ g H : e3_H} {G : e3_G} (hF : F_inv σ m nf) (h : c_FS nf σ g H G) : c_JL nf σ H G := by
  obtain ⟨h1, h2⟩ := h
  refine ⟨⟨h1, fun f hf => ?_⟩, fun f hf => ?_⟩
  · obtain ⟨cx, p1, ⟨c1, c2, c3, c4⟩, _⟩ := h2 f hf
    have := (hF.2.2.2.1 f (by omega) (by omega)).1.1
    exact ⟨by rw [c1]; omega, c2, fun c hc => (c4 c (by omega)).1⟩
  · obtain ⟨cx, p1, _, ⟨s5, s6, s7⟩, _, s12, _⟩ := h2 f hf
    refine ⟨s6, s7, fun k hk => ?_⟩
    obtain ⟨y1, lo, hi, _, ⟨rd, _⟩, _⟩ := s12 k hk
    have rd' := id rd
    obtain ⟨r1, ⟨r2, r3, _⟩, r4, _, _, _, ⟨r5, _⟩⟩ := rd'
    exact ⟨⟨r1.1, r1.2.1⟩, r5, fun h79 => ca_ru rd h79, r4, r3⟩
theorem JL_80 {σ H : e3_H} {G : e3_G} {r v : Int} (h : c_JL nf σ H G) : c_JL nf (e3_up σ 80 r v) H G := by
  have e : ∀ a : Int, a ≠ 80 → (e3_up σ 80 r v) a = σ a := fun a ha => funext fun k => e3_up_ne (ne_1 ha)
  unfold c_JL c_FL c_fl c_ca
  unfold c_JL c_FL c_fl c_ca at h
  rw [e 67 (by decide), e 68 (by decide), e 69 (by decide), e 70 (by decide), e 79 (by decide), e 81 (by decide), e 82 (by decide), e 83 (by decide), e 84 (by decide), e 85 (by decide), e 56 (by decide), e 58 (by decide), e 74 (by decide), e 73 (by decide)]
  exact h
/-- what the class reads of its rules -/
theorem JL_18 {σ H K : e3_H} {G : e3_G} {f k : Nat} (h : c_JL nf σ H G) (h18 : c_18 G H K) (hf : f < nf) (h12 : nf ≤ 12) : K 15 f = H 15 f ∧ g_at G (H 15 f) (108, 11) ∧ K (H 15 f) 3 = σ 70 f ∧ K (H 15 f) 4 = H (H 15 f) 4 ∧ g_at G (H (H 15 f) 4) (5, 16) ∧ 139 ≤ H (H 15 f) 4 ∧ K (H (H 15 f) 4) k = H (H (H 15 f) 4) k := by
  obtain ⟨⟨h1, _⟩, h2⟩ := h
  obtain ⟨y1, ⟨y2, y3⟩, _⟩ := h2 f hf
  exact ⟨h18.1 _ _ (Or.inr (by decide)), (h1.2.2 f hf).1.2, by rw [h18.1 _ _ (Or.inl (by decide))]; exact y1, h18.1 _ _ (Or.inl (by decide)), y3, y2, h18.2 _ _ _ _ y3 (by decide)⟩
/-- the rules before (f, k) that call know whom -/
def c_ce (nf f k : Nat) (σ H K : e3_H) : Prop := ∀ f' k' : Nat, (f' < f ∨ f' = f ∧ k' < k) → f' < nf → (k' : Int) < σ 70 f' → σ 79 (16 * (f' : Int) + k') = 2 → K (H (H (H 15 f') 4) k') 18 = a_fd (σ 67) (σ 81 (16 * (f' : Int) + k')) nf ∧ (0 ≤ a_fd (σ 67) (σ 81 (16 * (f' : Int) + k')) nf ∧ a_fd (σ 67) (σ 81 (16 * (f' : Int) + k')) nf < nf) ∧ σ 80 (16 * (f' : Int) + k') = a_fd (σ 67) (σ 81 (16 * (f' : Int) + k')) nf
theorem ce_step {σ H K K2 : e3_H} {G : e3_G} {f k : Nat} {f2 : Int} (hF : F_inv σ m nf) (hfn : f < nf) (hk : (k : Int) < σ 70 f) (h79 : σ 79 (16 * (f : Int) + k) = 2) (hJ : c_JL nf σ H G) (h : c_ce nf f k σ H K) (he : f2 = a_fd (σ 67) (σ 81 (16 * (f : Int) + k)) nf) (g0 : 0 ≤ f2) (g1 : f2 < nf) (hK : K2 (H (H (H 15 f) 4) k) 18 = f2) (hfr : ∀ x z : Int, ¬ (x = H (H (H 15 f) 4) k ∧ z = 18) → K2 x z = K x z) : c_ce nf f (k + 1) (e3_up σ 80 (16 * (f : Int) + k) f2) H K2 := by
  have e : ∀ a : Int, a ≠ 80 → (e3_up σ 80 (16 * (f : Int) + k) f2) a = σ a := fun a ha => funext fun y => e3_up_ne (ne_1 ha)
  intro f' k' hlt hf' hk' h79'
  rw [e 70 (by decide)] at hk'
  rw [e 79 (by decide)] at h79'
  rw [e 67 (by decide), e 81 (by decide)]
  have b1 := (hF.2.2.2.1 f' (by omega) (by omega)).2.2.1
  have b2 := (hF.2.2.2.1 f (by omega) (by omega)).2.2.1
  by_cases hq : f' = f ∧ k' = k
  · obtain ⟨q1, q2⟩ := hq
    rw [q1, q2, ← he]
    exact ⟨hK, ⟨g0, g1⟩, e3_up_self _ _ _ _⟩
  · obtain ⟨o1, o2, o3⟩ := h f' k' (by omega) hf' hk' h79'
    have c1 := ((hJ.2 f' hf').2.2 k' hk').2.2.1 h79'
    have c2 := ((hJ.2 f hfn).2.2 k hk).2.2.1 h79
    refine ⟨?_, o2, ?_⟩
    · by_cases ha : H (H (H 15 f') 4) k' = H (H (H 15 f) 4) k
      · rw [ha, hK, he, ← c1.2.1.1, ← c2.2.1.1, ha]
      · rw [hfr _ _ (fun z => ha z.1)]
        exact o1
    · rw [e3_up_ne (fun z => hq (by omega))]
      exact o3
theorem cR_jru {Q : Int → e3_H → e3_G → Prop} {k2 : Int → e3_H → e3_G → Prop} {H : e3_H} {G : e3_G} {f : Nat} (hfn : f < nf) :
    ∀ (rem k : Nat) (σ K : e3_H), (k + rem : Int) = σ 70 f → F_inv σ m nf → c_kd σ m H → c_JL nf σ H G → c_18 G H K → c_ce nf f k σ H K →
      (∀ σ2, a_jru f rem k σ = .inr σ2 → ∀ K2, c_18 G H K2 → c_ce nf (f + 1) 0 σ2 H K2 → k2 ((f + 1 : Nat) : Int) K2 G) →
      (∀ q, a_jru f rem k σ = .inl q → ∀ K2 K3, c_18 G H K2 → c_flt q K2 K3 → Q 0 K3 G) → wR_checkCalls_12 Q k2 (rem + 1) f k K G := by
  intro rem
  induction rem with
  | zero =>
    intro k σ K hk hF hkd hJ h18 hce hok hfl
    have h12 := hF.2.1
    obtain ⟨j1, j2, j3, j4, j5, j6, j7⟩ := JL_18 (k := k) hJ h18 hfn h12
    refine ⟨by omega, ?_⟩
    rw [j1, j3]
    refine ⟨ga_ob (c := 8) j2, brF (by omega) ?_⟩
    rw [w_p1 (by omega)]
    exact hok σ rfl K h18 (fun f' k' hlt hf' hk' => hce f' k' (by
      by_cases hq : f' = f
      · rw [hq] at hk'; omega
      · omega) hf' hk')
  | succ rem ih =>
    intro k σ K hk hF hkd hJ h18 hce hok hfl
    have h12 := hF.2.1
    have hF1 := hF.2.2.2.1 f (by omega) (by omega)
    have h70 := hF1.2.2.1
    obtain ⟨j1, j2, j3, j4, j5, j6, j7⟩ := JL_18 (k := k) hJ h18 hfn h12
    obtain ⟨⟨y1, y2⟩, y3, y4, _⟩ := (hJ.2 f hfn).2.2 k (by omega)
    have obf := ga_ob (c := 8) j2
    have next : ∀ (σ2 K2 : e3_H), (k + 1 + rem : Int) = σ2 70 f → F_inv σ2 m nf → c_kd σ2 m H → c_JL nf σ2 H G → c_18 G H K2 → c_ce nf f (k + 1) σ2 H K2 → (∀ σ3, a_jru f rem (k + 1) σ2 = .inr σ3 → ∀ K3, c_18 G H K3 → c_ce nf (f + 1) 0 σ3 H K3 → k2 ((f + 1 : Nat) : Int) K3 G) → (∀ q, a_jru f rem (k + 1) σ2 = .inl q → ∀ K3 K4, c_18 G H K3 → c_flt q K3 K4 → Q 0 K4 G) → wR_checkCalls_55 Q k2 (fun l1 l2 H G => wR_checkCalls_12 Q k2 (rem + 1) l1 l2 H G) f k K2 G := by
      intro σ2 K2 e1 e2 e3 e4 e5 e6 e7 e8
      unfold wR_checkCalls_55
      rw [w_p1 (by omega)]
      exact ih (k + 1) σ2 K2 (by omega) e2 e3 e4 e5 e6 e7 e8
    refine ⟨by omega, ?_⟩
    rw [j1, j3, j4, j7]
    refine ⟨obf, brT (by omega) ⟨by omega, obf, ga_oa j5 (by omega) (by omega), ga_ob (c := 9) y2, ?_⟩⟩
    rw [h18.1 _ 11 (Or.inl (by decide)), y3]
    refine ⟨fun h2 => ?_, fun h2 => ?_⟩
    · have hu : a_jru f (rem + 1) k σ = (match a_jan σ (16 * f + k) with
        | .inl q => .inl q
        | .inr σ2 => a_jru f rem (k + 1) σ2) := by
        conv => lhs; unfold a_jru
        rw [if_pos h2]
        rfl
      rw [hu] at hok hfl
      refine cR_checkCall (by omega) hF hkd hJ.1 h18 (y4 h2) (hF1.2.2.2 k (by omega) (by omega)) h2 (fun f2 he hf2 g0 g1 K2 h182 hK2 hfr2 => brF (by decide) ?_) (fun q he K2 K3 h182 hf => brT rfl (hfl q (by rw [he]) K2 K3 h182 hf))
      rw [he] at hok hfl
      exact next _ K2 (by rw [e3_up_ne (ne_1 (by decide))]; omega) (F_inv_up hF (Or.inl rfl)) (by
        unfold c_kd at hkd ⊢
        rw [show (e3_up σ 80 (16 * (f : Int) + k) f2) 42 = σ 42 from funext fun y => e3_up_ne (ne_1 (by decide)), show (e3_up σ 80 (16 * (f : Int) + k) f2) 43 = σ 43 from funext fun y => e3_up_ne (ne_1 (by decide)), show (e3_up σ 80 (16 * (f : Int) + k) f2) 44 = σ 44 from funext fun y => e3_up_ne (ne_1 (by decide)), show (e3_up σ 80 (16 * (f : Int) + k) f2) 45 = σ 45 from funext fun y => e3_up_ne (ne_1 (by decide))]
        exact hkd) (JL_80 hJ) h182 (ce_step hF hfn (by omega) h2 hJ hce hf2 g0 g1 hK2 hfr2) hok hfl
    · have hu : a_jru f (rem + 1) k σ = a_jru f rem (k + 1) σ := by
        conv => lhs; unfold a_jru
        rw [if_neg h2]
      rw [hu] at hok hfl
      exact next σ K (by omega) hF hkd hJ h18 (fun f' k' hlt hf' hk' h79' => hce f' k' (by
        by_cases hq : f' = f ∧ k' = k
        · rw [hq.1, hq.2] at h79'; exact absurd h79' h2
        · omega) hf' hk' h79') hok hfl
/-- tables but 80 are kept by judging calls -/
theorem jfs_JL {σ σ2 H : e3_H} {G : e3_G} (hJ : c_JL nf σ H G) (e : ∀ a x : Int, a ≠ 80 → σ2 a x = σ a x) : c_JL nf σ2 H G := by
  have e' : ∀ a : Int, a ≠ 80 → σ2 a = σ a := fun a ha => funext fun k => e a k ha
  unfold c_JL c_FL c_fl c_ca
  unfold c_JL c_FL c_fl c_ca at hJ
  rw [e' 67 (by decide), e' 68 (by decide), e' 69 (by decide), e' 70 (by decide), e' 79 (by decide), e' 81 (by decide), e' 82 (by decide), e' 83 (by decide), e' 84 (by decide), e' 85 (by decide), e' 56 (by decide), e' 58 (by decide), e' 74 (by decide), e' 73 (by decide)]
  exact hJ
theorem kd_80 {σ σ2 H : e3_H} (h : c_kd σ m H) (e : ∀ a x : Int, a ≠ 80 → σ2 a x = σ a x) : c_kd σ2 m H := by
  have e' : ∀ a : Int, a ≠ 80 → σ2 a = σ a := fun a ha => funext fun k => e a k ha
  unfold c_kd at h ⊢
  rw [e' 42 (by decide), e' 43 (by decide), e' 44 (by decide), e' 45 (by decide)]
  exact h
theorem cR_jfs {Q : Int → e3_H → e3_G → Prop} {H : e3_H} {G : e3_G} : ∀ (rem f : Nat) (σ K : e3_H), f + rem = nf → F_inv σ m nf → c_kd σ m H → c_JL nf σ H G → c_18 G H K → c_ce nf f 0 σ H K →
      (∀ σ2, a_jfs rem f σ = .inr σ2 → ∀ K2, c_18 G H K2 → c_ce nf nf 0 σ2 H K2 → Q 1 K2 G) →
      (∀ q, a_jfs rem f σ = .inl q → ∀ K2 K3, c_18 G H K2 → c_flt q K2 K3 → Q 0 K3 G) → wR_checkCalls_2 Q (rem + 1) f K G := by
  intro rem
  induction rem with
  | zero =>
    intro f σ K hf hF hkd hJ h18 hce hok hfl
    refine brF ?_ (hok σ rfl K h18 (by have ef : f = nf := by omega
                                       rw [ef] at hce; exact hce))
    rw [h18.1 14 3 (Or.inr (by decide)), hJ.1.1.1]
    omega
  | succ rem ih =>
    intro f σ K hf hF hkd hJ h18 hce hok hfl
    have h70 := (hF.2.2.2.1 f (by omega) (by omega)).2.2.1
    have hcn : ((σ 70 f).toNat : Int) = σ 70 f := Int.toNat_of_nonneg h70.1
    have hu : a_jfs (rem + 1) f σ = (match a_jru f (σ 70 f).toNat 0 σ with
      | .inl q => .inl q
      | .inr σ2 => a_jfs rem (f + 1) σ2) := rfl
    rw [hu] at hok hfl
    refine brT (by rw [h18.1 14 3 (Or.inr (by decide)), hJ.1.1.1]; omega) ⟨(σ 70 f).toNat + 1, cR_jru (m := m) (nf := nf) (by omega) (σ 70 f).toNat 0 σ K (by omega) hF hkd hJ h18 hce (fun σ2 he K2 h182 hce2 => ?_) (fun q he K2 K3 h182 hf2 => hfl q (by rw [he]) K2 K3 h182 hf2)⟩
    rw [he] at hok hfl
    obtain ⟨c1, c2⟩ := a_jru_ok _ _ _ _ he hF
    exact ih (f + 1) σ2 K2 (by omega) c1 (kd_80 hkd c2) (jfs_JL hJ c2) h182 hce2 hok hfl
end CCE
