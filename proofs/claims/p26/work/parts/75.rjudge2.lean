section RJ3
variable {H0 : e3_H} {G : e3_G} {n m nf : Nat} {t : Int → Int}
theorem a_jan_ok {σ σ2 : e3_H} {r : Int} (h : a_jan σ r = .inr σ2) : ∃ f, σ2 = e3_up σ 80 r f := by
  unfold a_jan at h
  split at h
  · cases h
  · split at h
    · cases h
    · split at h
      · cases h
      · cases h; exact ⟨_, rfl⟩
theorem a_jru_ok {f : Int} : ∀ (rem k : Nat) (σ σ2 : e3_H), a_jru f rem k σ = .inr σ2 → F_inv σ m nf → F_inv σ2 m nf ∧ ∀ a x : Int, a ≠ 80 → σ2 a x = σ a x := by
  intro rem
  induction rem with
  | zero => intro k σ σ2 h hF; cases h; exact ⟨hF, fun _ _ _ => rfl⟩
  | succ rem ih =>
    intro k σ σ2 h hF
    unfold a_jru at h
    split at h
    · split at h
      · cases h
      · rename_i σ1 h1
        obtain ⟨g, rfl⟩ := a_jan_ok h1
        obtain ⟨c1, c2⟩ := ih _ _ _ h (F_inv_up hF (Or.inl rfl))
        exact ⟨c1, fun a x ha => by rw [c2 a x ha, e3_up_ne (by omega)]⟩
    · exact ih _ _ _ h hF
theorem a_jfs_ok : ∀ (rem f : Nat) (σ σ2 : e3_H), a_jfs rem f σ = .inr σ2 → F_inv σ m nf → F_inv σ2 m nf ∧ ∀ a x : Int, a ≠ 80 → σ2 a x = σ a x := by
  intro rem
  induction rem with
  | zero => intro k σ σ2 h hF; cases h; exact ⟨hF, fun _ _ _ => rfl⟩
  | succ rem ih =>
    intro f σ σ2 h hF
    unfold a_jfs at h
    split at h
    · cases h
    · rename_i σ1 h1
      obtain ⟨c1, c2⟩ := a_jru_ok _ _ _ _ h1 hF
      obtain ⟨d1, d2⟩ := ih _ _ _ h c1
      exact ⟨d1, fun a x ha => (d2 a x ha).trans (c2 a x ha)⟩
theorem a_rwr_ok {f : Int} : ∀ (rem k : Nat) (σ σ2 : e3_H), a_rwr f rem k σ = .inr σ2 → F_inv σ m nf → F_inv σ2 m nf ∧ ∀ a x : Int, ¬ (a = 71 ∧ x = f) → σ2 a x = σ a x := by
  intro rem
  induction rem with
  | zero => intro k σ σ2 h hF; cases h; exact ⟨hF, fun _ _ _ => rfl⟩
  | succ rem ih =>
    intro k σ σ2 h hF
    unfold a_rwr at h
    split at h
    · cases h
    · obtain ⟨c1, c2⟩ := ih _ _ _ h (F_inv_up hF (Or.inr rfl))
      exact ⟨c1, fun a x ha => by rw [c2 a x ha, e3_up_ne (by omega)]⟩
theorem a_rfs_ok : ∀ (rem f : Nat) (σ σ2 : e3_H), a_rfs rem f σ = .inr σ2 → F_inv σ m nf → F_inv σ2 m nf ∧ ∀ a x : Int, a ≠ 71 → σ2 a x = σ a x := by
  intro rem
  induction rem with
  | zero => intro k σ σ2 h hF; cases h; exact ⟨hF, fun _ _ _ => rfl⟩
  | succ rem ih =>
    intro f σ σ2 h hF
    unfold a_rfs at h
    split at h
    · cases h
    · rename_i σ1 h1
      obtain ⟨c1, c2⟩ := a_rwr_ok _ _ _ _ h1 (F_inv_up hF (Or.inr rfl))
      obtain ⟨d1, d2⟩ := ih _ _ _ h c1
      exact ⟨d1, fun a x ha => by rw [d2 a x ha, c2 a x (by omega), e3_up_ne (by omega)]⟩
theorem cM_jru {Q : e3_H → e3_G → Prop} {k2 : Int → e3_H → e3_G → Prop} {f : Nat} (hfn : f < nf) :
    ∀ (rem k : Nat) (σ K : e3_H), (k + rem : Int) = σ 70 f → r_N σ K → K 40 7 = 0 → F_inv σ m nf → f_fr H0 K →
      (∀ σ2, a_jru f rem k σ = .inr σ2 → ∀ K', r_N σ2 K' → K' 40 7 = 0 → f_fr H0 K' → k2 ((f + 1 : Nat) : Int) K' G) →
      (∀ q, a_jru f rem k σ = .inl q → ∀ K', r_bd q H0 K' → K' 40 41 = nf → k2 ((f + 1 : Nat) : Int) K' G) → wM_judge_12 Q k2 (rem + 1) f k K G := by
  intro rem
  induction rem with
  | zero =>
    intro k σ K hk hN h0 hF hfr hok hfl
    have h12 := hF.2.1
    have e70 : K 70 f = σ 70 f := by rw [r_N_at hN 70 (by omega)]
    refine ⟨by omega, brF (by rw [e70]; omega) ?_⟩
    unfold wM_judge_60
    rw [w_p1 (by omega)]
    exact hok σ rfl K hN h0 hfr
  | succ rem ih =>
    intro k σ K hk hN h0 hF hfr hok hfl
    have h12 := hF.2.1
    have hF1 := hF.2.2.2.1 f (by omega) (by omega)
    have h70 := hF1.2.2.1
    have e70 : K 70 f = σ 70 f := by rw [r_N_at hN 70 (by omega)]
    refine ⟨by omega, brT (by rw [e70]; omega) (brT h0 ?_)⟩
    rw [e3_w32_id (x := 16 * (f : Int)) (by omega) (by omega), e3_w32_id (x := 16 * (f : Int) + (k : Int)) (by omega) (by omega), r_N_at hN 79 (by omega)]
    refine ⟨by omega, fun h2 => ?_, fun h2 => ?_⟩
    · have hu : a_jru f (rem + 1) k σ = (match a_jan σ (16 * f + k) with
        | .inl q => .inl q
        | .inr σ2 => a_jru f rem (k + 1) σ2) := by
        conv => lhs; unfold a_jru
        rw [if_pos h2]
        rfl
      rw [hu] at hok hfl
      refine cM_judgeAnswer (m := m) (nf := nf) (by omega) hN h0 hF (hF1.2.2.2 k (by omega) (by omega)) h2 hfr (fun σ2 hj K' a b c => ?_) (fun q hj K' hb h41 => ?_)
      · rw [hj] at hok hfl
        unfold wM_judge_54
        rw [w_p1 (by omega)]
        obtain ⟨g, rfl⟩ := a_jan_ok hj
        exact ih (k + 1) _ K' (by rw [e3_up_ne (by omega)]; omega) a b (F_inv_up hF (Or.inl rfl)) c hok hfl
      · unfold wM_judge_54
        rw [w_p1 (by omega)]
        exact cM_j12f (by omega) hb.1 (hfl q (by rw [hj]) K' hb h41) rem
    · have hu : a_jru f (rem + 1) k σ = a_jru f rem (k + 1) σ := by
        conv => lhs; unfold a_jru
        rw [if_neg h2]
      rw [hu] at hok hfl
      unfold wM_judge_54
      rw [w_p1 (by omega)]
      exact ih (k + 1) σ K (by omega) hN h0 hF hfr hok hfl
theorem cM_rwr {Q : e3_H → e3_G → Prop} {k68 : Int → e3_H → e3_G → Prop} {f : Nat} (hfn : f < nf) :
    ∀ (rem k : Nat) (σ K : e3_H), (k + rem : Int) = σ 70 f → r_N σ K → K 40 7 = 0 → F_inv σ m nf → f_fr H0 K → (0 ≤ σ 71 f ∧ σ 71 f ≤ 40) →
      (∀ σ2, a_rwr f rem k σ = .inr σ2 → ∀ K', r_N σ2 K' → K' 40 7 = 0 → f_fr H0 K' → k68 ((f + 1 : Nat) : Int) K' G) →
      (∀ q, a_rwr f rem k σ = .inl q → ∀ K', r_bd q H0 K' → K' 40 41 = nf → k68 ((f + 1 : Nat) : Int) K' G) → wM_judge_85 Q k68 (rem + 1) f k K G := by
  intro rem
  induction rem with
  | zero =>
    intro k σ K hk hN h0 hF hfr h71 hok hfl
    have h12 := hF.2.1
    have e70 : K 70 f = σ 70 f := by rw [r_N_at hN 70 (by omega)]
    refine ⟨by omega, brF (by rw [e70]; omega) ?_⟩
    unfold wM_judge_156
    rw [w_p1 (by omega)]
    exact hok σ rfl K hN h0 hfr
  | succ rem ih =>
    intro k σ K hk hN h0 hF hfr h71 hok hfl
    have h12 := hF.2.1
    have hF1 := hF.2.2.2.1 f (by omega) (by omega)
    have h70 := hF1.2.2.1
    have e70 : K 70 f = σ 70 f := by rw [r_N_at hN 70 (by omega)]
    have e41 : K 40 41 = nf := by rw [r_N_f hN 41 (by omega)]; exact hF.1
    have hj := (hF1.2.2.2 k (by omega) (by omega)).1
    refine ⟨by omega, brT (by rw [e70]; omega) (brT h0 ?_)⟩
    rw [e3_w32_id (x := 16 * (f : Int)) (by omega) (by omega), e3_w32_id (x := 16 * (f : Int) + (k : Int)) (by omega) (by omega), r_N_at hN 71 (by omega), r_N_at hN 74 (by omega), e3_w32_id (x := σ 71 f + σ 74 (16 * f + k)) (by omega) (by omega)]
    refine ⟨by omega, by omega, by omega, ?_⟩
    intro H2 e2
    refine ⟨by omega, ?_⟩
    have u71 : H2 71 f = σ 71 f + σ 74 (16 * f + k) := by rw [e2, e3_up_self]
    have u73 : H2 73 = σ 73 := by funext x; rw [e2, e3_up_ne (by omega), r_N_at hN 73 (by omega)]
    have z2 : H2 40 7 = 0 := by rw [e2, e3_up_ne (by omega)]; exact h0
    have f2 : f_fr H0 H2 := by rw [e2]; exact f_up hfr (by omega)
    have g41 : H2 40 41 = nf := by rw [e2, e3_up_ne (by omega)]; exact e41
    rw [u71, u73]
    refine ⟨fun hgt => ⟨by omega, cM_fl z2 (by decide) (fun K' hf => ?_)⟩, fun hgt => ?_⟩
    · have hb := bd_f f2 hf
      have h41 : K' 40 41 = nf := by rw [hf.2.2.1 41 (by omega) (by omega)]; exact g41
      unfold wM_judge_150
      rw [w_p1 (by omega)]
      have g1 : wM_judge_156 Q k68 f K' G := by
        unfold wM_judge_156
        rw [w_p1 (by omega)]
        refine hfl _ ?_ K' hb h41
        unfold a_rwr
        rw [if_pos hgt]
      exact ⟨by omega, fun _ => brF hb.1 g1, fun _ => g1⟩
    · have hu : a_rwr f (rem + 1) k σ = a_rwr f rem (k + 1) (e3_up σ 71 f (σ 71 f + σ 74 (16 * f + k))) := by
        conv => lhs; unfold a_rwr
        rw [if_neg hgt]
      rw [hu] at hok hfl
      unfold wM_judge_150
      rw [w_p1 (by omega)]
      exact ih (k + 1) _ H2 (by rw [e3_up_ne (by omega)]; omega) (by rw [e2]; exact r_N_w _ _ _ hN) z2 (F_inv_up hF (Or.inr rfl)) f2 (by rw [e3_up_self]; omega) hok hfl
theorem cM_rfs {Q : e3_H → e3_G → Prop} : ∀ (rem f : Nat) (σ K : e3_H), f + rem = nf → r_N σ K → K 40 7 = 0 → F_inv σ m nf → f_fr H0 K →
      (∀ σ2, a_rfs rem f σ = .inr σ2 → ∀ K', r_N σ2 K' → K' 40 7 = 0 → f_fr H0 K' → Q K' G) →
      (∀ q, a_rfs rem f σ = .inl q → ∀ K', r_bd q H0 K' → Q K' G) → wM_judge_68 Q (rem + 1) f K G := by
  intro rem
  induction rem with
  | zero =>
    intro f σ K hf hN h0 hF hfr hok hfl
    exact brF (by rw [r_N_f hN 41 (by omega), hF.1]; omega) (hok σ rfl K hN h0 hfr)
  | succ rem ih =>
    intro f σ K hf hN h0 hF hfr hok hfl
    have h12 := hF.2.1
    refine brT (by rw [r_N_f hN 41 (by omega), hF.1]; omega) ⟨by omega, ?_⟩
    intro H1 e1
    have hu : a_rfs (rem + 1) f σ = (match a_rwr f (σ 70 f).toNat 0 (e3_up σ 71 f 0) with
      | .inl q => .inl q
      | .inr σ2 => a_rfs rem (f + 1) σ2) := rfl
    rw [hu] at hok hfl
    have h70 := (hF.2.2.2.1 f (by omega) (by omega)).2.2.1
    have hcn : ((σ 70 f).toNat : Int) = σ 70 f := Int.toNat_of_nonneg h70.1
    have F1 := F_inv_up (a := 71) (j := f) (v := 0) hF (Or.inr rfl)
    refine ⟨(σ 70 f).toNat + 1, cM_rwr (m := m) (nf := nf) (by omega) (σ 70 f).toNat 0 _ H1 (by rw [e3_up_ne (by omega)]; omega) (by rw [e1]; exact r_N_w _ _ _ hN) (by rw [e1, e3_up_ne (by omega)]; exact h0) F1 (by rw [e1]; exact f_up hfr (by omega)) (by rw [e3_up_self]; omega) (fun σ2 hr K' a b c => ?_) (fun q hr K' hb h41 => ?_)⟩
    · rw [hr] at hok hfl
      exact ih (f + 1) σ2 K' (by omega) a b (a_rwr_ok _ _ _ _ hr F1).1 c hok hfl
    · exact cM_j68f h12 (hfl q (by rw [hr])) rem (f + 1) K' (by omega) h41 hb
theorem cM_jfs {Q : e3_H → e3_G → Prop} : ∀ (rem f : Nat) (σ K : e3_H), f + rem = nf → r_N σ K → K 40 7 = 0 → F_inv σ m nf → f_fr H0 K →
      (∀ σ2, a_jfs rem f σ = .inr σ2 → ∀ K', r_N σ2 K' → K' 40 7 = 0 → f_fr H0 K' → ∃ n, wM_judge_68 Q n 0 K' G) →
      (∀ q, a_jfs rem f σ = .inl q → ∀ K', r_bd q H0 K' → Q K' G) → wM_judge_2 Q (rem + 1) f K G := by
  intro rem
  induction rem with
  | zero =>
    intro f σ K hf hN h0 hF hfr hok hfl
    exact brF (by rw [r_N_f hN 41 (by omega), hF.1]; omega) (hok σ rfl K hN h0 hfr)
  | succ rem ih =>
    intro f σ K hf hN h0 hF hfr hok hfl
    have h12 := hF.2.1
    refine brT (by rw [r_N_f hN 41 (by omega), hF.1]; omega) ?_
    have hu : a_jfs (rem + 1) f σ = (match a_jru f (σ 70 f).toNat 0 σ with
      | .inl q => .inl q
      | .inr σ2 => a_jfs rem (f + 1) σ2) := rfl
    rw [hu] at hok hfl
    have h70 := (hF.2.2.2.1 f (by omega) (by omega)).2.2.1
    have hcn : ((σ 70 f).toNat : Int) = σ 70 f := Int.toNat_of_nonneg h70.1
    refine ⟨(σ 70 f).toNat + 1, cM_jru (m := m) (nf := nf) (by omega) (σ 70 f).toNat 0 σ K (by omega) hN h0 hF hfr (fun σ2 hr K' a b c => ?_) (fun q hr K' hb h41 => ?_)⟩
    · rw [hr] at hok hfl
      exact ih (f + 1) σ2 K' (by omega) a b (a_jru_ok _ _ _ _ hr hF).1 c hok hfl
    · exact cM_j2f h12 (hfl q (by rw [hr])) rem (f + 1) K' (by omega) h41 hb
theorem cM_judge {Q : e3_H → e3_G → Prop} {σ K : e3_H} (hN : r_N σ K) (h0 : K 40 7 = 0) (hF : F_inv σ m nf) (hfr : f_fr H0 K)
    (hok : ∀ σ2, a_judge σ = .inr σ2 → ∀ K', r_N σ2 K' → K' 40 7 = 0 → f_fr H0 K' → Q K' G) (hfl : ∀ q, a_judge σ = .inl q → ∀ K', r_bd q H0 K' → Q K' G) : wM_judge Q K G := by
  unfold a_judge at hok hfl
  rw [F_nf hF] at hok hfl
  refine ⟨nf + 1, cM_jfs (m := m) nf 0 σ K (by omega) hN h0 hF hfr (fun σ2 hr K' a b c => ?_) (fun q hr K' hb => hfl q (by rw [hr]) K' hb)⟩
  rw [hr] at hok hfl
  exact ⟨nf + 1, cM_rfs (m := m) nf 0 σ2 K' (by omega) a b (a_jfs_ok _ _ _ _ hr hF).1 c hok hfl⟩
theorem a_judge_ok {σ σ2 : e3_H} (h : a_judge σ = .inr σ2) (hF : F_inv σ m nf) : F_inv σ2 m nf ∧ ∀ a x : Int, a ≠ 71 → a ≠ 80 → σ2 a x = σ a x := by
  unfold a_judge at h
  split at h
  · cases h
  · rename_i σ1 h1
    obtain ⟨c1, c2⟩ := a_jfs_ok _ _ _ _ h1 hF
    obtain ⟨d1, d2⟩ := a_rfs_ok _ _ _ _ h c1
    exact ⟨d1, fun a x h1 h2 => (d2 a x h1).trans (c2 a x h2)⟩
end RJ3
