theorem pts_40 {t : Int → Int} {n k : Nat} : ∀ (f i j : Nat) (σ σ2 : e3_H), a_pts t n k f i σ = .inr (j, σ2) → i < j ∧ ∀ x : Int, σ2 40 x = σ 40 x := by
  intro f
  induction f with
  | zero => intro i j σ σ2 h; cases h
  | succ f ih =>
    intro i j σ σ2 h
    unfold a_pts at h
    split at h
    · cases h
    · rename_i s hs
      have e : ∀ x : Int, a_pt1 σ k s 40 x = σ 40 x := fun x => by
        unfold a_pt1
        rw [e3_up_ne (ne_1 (by decide)), e3_up_ne (ne_1 (by decide))]
      split at h
      · obtain ⟨h1, h2⟩ := ih _ _ _ _ h
        exact ⟨by omega, fun x => (h2 x).trans (e x)⟩
      · split at h
        · have h := Sum.inr.inj h
          obtain ⟨h1, h2⟩ := Prod.mk.inj h
          exact ⟨by omega, fun x => by rw [← h2]; exact e x⟩
        · cases h
theorem knd_40 {t : Int → Int} {n i j : Nat} {added : Bool} {σ σ2 : e3_H} (h : a_knd t n i added σ = .inr (j, σ2)) : i < j ∧ ∀ x : Int, x ≠ 10 → σ2 40 x = σ 40 x := by
  unfold a_knd at h
  split at h
  · cases h
  · split at h
    · cases h
    · split at h
      · cases h
      · have eN : ∀ x : Int, x ≠ 10 → a_new σ (a_nk σ) (x_wo t n i) 40 x = σ 40 x := fun x hx => by
          unfold a_new
          rw [e3_up_ne (ne_1 (by decide)), e3_up_ne (ne_1 (by decide)), e3_up_ne (ne_1 (by decide)), e3_up_ne (fun z => hx z.2)]
        generalize a_new σ (a_nk σ) (x_wo t n i) = σ1 at h eN
        have k3 : ∀ (r : a_P) (j : Nat) (σ2 : e3_H), a_knd3 t n r = .inr (j, σ2) → ∃ j', r = .inr (j', σ2) ∧ j' < j := by
          intro r j σ2 h
          unfold a_knd3 at h
          split at h
          · cases h
          · split at h
            · have h := Prod.mk.inj (Sum.inr.inj h)
              exact ⟨_, by rw [h.2], by omega⟩
            · cases h
        have u1 : ∀ (j' : Nat) (σ' : e3_H), a_knd1 t n (a_nk σ) (i + 1) added σ1 = .inr (j', σ') → i < j' ∧ ∀ x : Int, σ' 40 x = σ1 40 x := by
          intro j' σ' h
          unfold a_knd1 at h
          split at h
          · unfold a_und at h
            split at h
            · cases h
            · split at h
              · cases h
              · split at h
                · cases h
                · have h := Prod.mk.inj (Sum.inr.inj h)
                  exact ⟨by omega, fun x => by rw [← h.2, e3_up_ne (ne_1 (by decide))]⟩
          · split at h
            · cases h
            · have h := Prod.mk.inj (Sum.inr.inj h)
              exact ⟨by omega, fun x => by rw [← h.2]⟩
        unfold a_knd2 at h
        split at h
        · cases h
        · rename_i j1 σ' hr
          obtain ⟨a1, a2⟩ := u1 _ _ hr
          split at h
          · obtain ⟨j', b1, b2⟩ := k3 _ _ _ h
            obtain ⟨d1, d2⟩ := pts_40 _ _ _ _ _ b1
            exact ⟨by omega, fun x hx => by rw [d2, a2, eN x hx]⟩
          · obtain ⟨j', b1, b2⟩ := k3 _ _ _ h
            have b1 := Prod.mk.inj (Sum.inr.inj b1)
            exact ⟨by omega, fun x hx => by rw [← b1.2, a2, eN x hx]⟩
/-- what reading KINDS may change -/
def kn_fr (H K : e3_H) : Prop := (∀ a k : Int, a ∉ [3, 8, 9, 10, 11, 12, 13, 14] → K a k = H a k) ∧ (∀ k : Int, k < 5 → K 3 k = H 3 k) ∧ ∀ k : Int, k ≠ 4 → k ≠ 5 → K 14 k = H 14 k
theorem kn_rf (H : e3_H) : kn_fr H H := ⟨fun _ _ _ => rfl, fun _ _ => rfl, fun _ _ _ => rfl⟩
theorem kn_k {H K K2 : e3_H} {m : Nat} {added : Bool} (h : kn_fr H K) (h2 : ck_fr m added K K2) : kn_fr H K2 := ⟨fun a k ha => (h2.1 a k ha).trans (h.1 a k ha), fun k hk => (h2.2.1 k hk).trans (h.2.1 k hk), fun k z1 z2 => (h2.2.2.2.2.1 k z1 z2).trans (h.2.2 k z1 z2)⟩
section CKL
variable {n s : Nat} {t : Int → Int}
theorem cR_t43f {Q : Int → e3_H → e3_G → Prop} {K : e3_H} {G : e3_G} (h : Q 0 K G) : wR_readText_43 Q 0 K G :=
  ⟨1, brF (by decide) (brT rfl (brT rfl ⟨Or.inl rfl, h⟩))⟩
theorem cR_knds {Q : Int → e3_H → e3_G → Prop} {H0 : e3_H} {G : e3_G} : ∀ (g i m : Nat) (σ H : e3_H), g + m = 25 → c_tk t n s i H → c_kd σ m H → k_inv σ m → σ 40 16 = 0 → σ 40 41 = 0 → kn_fr H0 H →
    (∀ j σ2 m2 K, a_knds t n g i σ = .inr (j, σ2) → c_tk t n s j K → c_kd σ2 m2 K → F_inv σ2 m2 0 → σ2 40 16 = 0 → kn_fr H0 K → wR_readText_43 Q 1 K G) →
    (∀ q K, a_knds t n g i σ = .inl q → K 14 4 ≠ 0 → K 14 5 = q → kn_fr H0 K → Q 0 K G) → wR_readText_8 Q (g + 1) 1 m H G := by
  intro g
  induction g with
  | zero => intro i m σ H hg _ _ hk; have := hk.2.1; omega
  | succ g ih =>
    intro i m σ H hg htk hkd hk h16 h41 hfr hok hfl
    have h24 := hk.2.1
    refine brF (by omega) (brF (by decide) ?_)
    rw [(c_now htk).1]
    refine ⟨fun hty => ?_, fun hty => ?_⟩
    · have hu : a_knds t n (g + 1) i σ = (match a_knd t n (i + 1) false σ with
        | .inl q => .inl q
        | .inr (j, σ2) => a_knds t n g j σ2) := by
        conv => lhs; unfold a_knds
        rw [if_pos (by omega)]
        rfl
      rw [hu] at hok hfl
      refine cR_readKind (added := false) rfl htk ⟨by omega, by omega⟩ hkd hk ?_
      unfold c_out
      rw [w_p1 (by omega)]
      split
      · rename_i pl hr
        intro K z1 z2 z3
        have hQ := hfl pl K (by rw [hr]) z1 z2 (kn_k hfr z3)
        exact ⟨fun _ => cR_t43f hQ, fun _ => brT rfl (cR_t43f hQ)⟩
      · rename_i j σ2 hr
        rw [hr] at hok hfl
        intro K a b c d
        obtain ⟨_, e⟩ := knd_40 hr
        exact ih j (m + 1) σ2 K (by omega) a b c (by rw [e 16 (by decide)]; exact h16) (by rw [e 41 (by decide)]; exact h41) (kn_k hfr d) hok hfl
    · refine hok i σ m H ?_ htk hkd (F_kn hk h16 h41) h16 hfr
      unfold a_knds
      rw [if_neg (by omega)]
end CKL
