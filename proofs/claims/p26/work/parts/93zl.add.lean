/-- a KIND that comes later, in the abstract -/
def a_add (t : Int → Int) (n : Nat) (σ : e3_H) : Int ⊕ e3_H := if x_ty t n 0 = 270 then (match a_knd t n 1 true σ with
    | .inl q => .inl q
    | .inr (j, σ2) => if x_ty t n j = 256 then .inr σ2 else .inl (x_sp t n j)) else .inl (x_sp t n 0)
theorem q_add {b t : Int → Int} {n : Nat} (h : x_bt b t n) (σ : e3_H) : a_add b n σ = a_add t n σ := by
  unfold a_add
  simp only [x_ty_eq h, x_sp_eq h, q_kind h]
theorem add_knd {t : Int → Int} {n : Nat} {σ σ2 : e3_H} (h : a_add t n σ = .inr σ2) : ∃ j, a_knd t n 1 true σ = .inr (j, σ2) := by
  unfold a_add at h
  split at h
  · split at h
    · cases h
    · rename_i j σ3 hr
      split at h
      · cases h; exact ⟨j, hr⟩
      · cases h
  · cases h
/-- what an add of the class may change -/
def ADf (H K : e3_H) : Prop := (∀ a x : Int, a ≠ 2 → a ≠ 3 → ¬ (5 ≤ a ∧ a ≤ 14) → K a x = H a x) ∧ K 3 1 = 0 ∧ (∀ x : Int, x ≠ 8 → K 2 x = H 2 x) ∧ ∀ x : Int, x ≠ 4 → x ≠ 5 → K 14 x = H 14 x
section CPA
variable {Q : Int → e3_H → e3_G → Prop} {t : Int → Int} {n m : Nat} {σ H : e3_H} {G : e3_G}
/-- add, of the class -/
theorem cP_add (hn : H 3 1 = (n : Int)) (hn2 : n ≤ 1600) (hw : ∀ j : Int, 0 ≤ j → j < 11 → H 1 j = x_wd j) (ht : H 4 = t) (hb : ∀ k : Nat, k < n → -128 ≤ t k ∧ t k ≤ 127) (hkd : H 2 6 ≠ 0 → c_kd σ m H ∧ k_inv σ m)
    (hno : H 2 6 = 0 → Q (-2) H G)
    (hfl : H 2 6 ≠ 0 → ∀ (q : Int) (K : e3_H), a_add t n σ = .inl q → ADf H K → c_kd σ m K → Q (e3_w32 ((-10) - q)) K G)
    (hok : H 2 6 ≠ 0 → ∀ (σ2 K : e3_H), a_add t n σ = .inr σ2 → ADf H K → c_kd σ2 (m + 1) K → Q (m : Int) K G) : wP_add Q H G := by
  by_cases h26 : H 2 6 = 0
  · exact brT h26 (hno h26)
  have hfl := hfl h26
  have hok := hok h26
  obtain ⟨hkd, hki⟩ := hkd h26
  have h80 : H 8 0 = (m : Int) := hkd.1
  refine brF h26 ?_
  unfold wR_readLateKind wR_begin
  subst ht
  refine cT_cut hn hn2 hw hb (fun s H1 hc ha h31 hA => ?_)
  intro H4 e4 H5 e5
  have x5 : ∀ a k : Int, a ≠ 14 → H5 a k = H1 a k := fun a k hz => by rw [e5, e3_up_ne (ne_1 hz), e4, e3_up_ne (ne_1 hz)]
  have f5 : ∀ a k : Int, a ≠ 3 → a ≠ 5 → a ≠ 6 → a ≠ 7 → a ≠ 14 → H5 a k = H a k := fun a k a3 a5 a6 a7 a14 => by
    rw [x5 a k a14]
    exact hA a k (by simp only [List.mem_cons, List.not_mem_nil, or_false, not_or]; exact ⟨a3, a5, a6, a7⟩)
  have g5 : ∀ k : Int, k ≠ 4 → k ≠ 5 → H5 14 k = H 14 k := fun k k4 k5 => by
    rw [e5, e3_up_ne (ne_2 k5), e4, e3_up_ne (ne_2 k4)]
    exact hA 14 k (by decide)
  have h531 : H5 3 1 = 0 := by rw [x5 3 1 (by decide)]; exact h31
  have htk : c_tk (H 4) n s 0 H5 := by
    obtain ⟨c1, c2, c3, c4, c5, c6⟩ := hc
    obtain ⟨b1, b2, b3, b4, b5⟩ := ha
    refine ⟨by rw [x5 _ _ (by decide)]; exact c1, by omega, fun j hj => ?_, c5, c6, by rw [x5 _ _ (by decide)]; exact b1, b2, by rw [x5 _ _ (by decide), x5 _ _ (by decide)]; exact b3, by rw [x5 _ _ (by decide), x5 _ _ (by decide)]; exact b4, by rw [x5 _ _ (by decide), x5 _ _ (by decide)]; exact b5⟩
    rw [x5 _ _ (by decide), x5 _ _ (by decide), x5 _ _ (by decide)]
    exact c4 j hj
  have kd5 : c_kd σ m H5 := ckd_eq hkd (fun a k ha => f5 a k (by omega) (by omega) (by omega) (by omega) (by omega))
  have hty : H5 3 7 = x_ty (H 4) n 0 := by
    have := htk.2.2.2.2.2
    rw [this.2.2.1]
    have := (htk.2.2.1 0 this.2.1).1
    exact this
  -- the end: a fault
  have bad : ∀ (q : Int) (K : e3_H), a_add (H 4) n σ = .inl q → K 14 5 = q → (∀ a k : Int, a ∉ [3, 8, 9, 10, 11, 12, 13, 14] → K a k = H5 a k) → K 3 1 = 0 → (∀ k : Int, k ≠ m → K 9 k = H5 9 k ∧ K 10 k = H5 10 k ∧ K 12 k = H5 12 k) → (∀ k : Int, k < 4 * (m : Int) → K 13 k = H5 13 k) → (∀ k : Int, k ≠ 4 → k ≠ 5 → K 14 k = H5 14 k) → (∀ k : Int, k ≠ m → K 11 k = H5 11 k) → ∀ H4 : e3_H, H4 = e3_up K 2 8 (K 14 4) → ∀ H5 : e3_H, H5 = e3_up H4 8 0 (H 8 0) → Q (e3_w32 ((-10) - (H5 14 5))) H5 G := by
    intro q K hq k5 r1 r2 r3 r4 r5 r6 K4 j4 K5 j5
    have a5 : ∀ a k : Int, a ≠ 2 → a ≠ 8 → K5 a k = K a k := fun a k h2 h8 => by rw [j5, e3_up_ne (ne_1 h8), j4, e3_up_ne (ne_1 h2)]
    rw [a5 14 5 (by decide) (by decide), k5]
    refine hfl q K5 hq ⟨fun a x a2 a3 a4 => ?_, ?_, fun x hx => ?_, fun x x4 x5 => ?_⟩ ⟨?_, fun k hk => ?_⟩
    · rw [a5 a x a2 (by omega), r1 a x (by simp only [List.mem_cons, List.not_mem_nil, or_false]; omega)]
      exact f5 a x a3 (by omega) (by omega) (by omega) (by omega)
    · rw [a5 3 1 (by decide) (by decide)]; exact r2
    · rw [j5, e3_up_ne (ne_1 (by decide)), j4, e3_up_ne (ne_2 hx), r1 2 x (by decide)]
      exact f5 2 x (by decide) (by decide) (by decide) (by decide) (by decide)
    · rw [a5 14 x (by decide) (by decide), r5 x x4 x5]; exact g5 x x4 x5
    · rw [j5, e3_up_self]; exact h80
    · have hkm : (k : Int) ≠ m := by omega
      obtain ⟨b1, b2, b3, b4, b5⟩ := kd5.2 k hk
      have h4 := hki.2.2.2.2 k hk
      rw [a5 9 _ (by decide) (by decide), a5 10 _ (by decide) (by decide), a5 12 _ (by decide) (by decide), a5 11 _ (by decide) (by decide), (r3 k hkm).1, (r3 k hkm).2.1, (r3 k hkm).2.2, r6 k hkm]
      refine ⟨b1, b2, b3, fun i hi => ?_, b5⟩
      rw [a5 13 _ (by decide) (by decide), r4 _ (by omega)]
      exact b4 i hi
  by_cases h270 : x_ty (H 4) n 0 = 270
  · refine brT (by rw [hty]; exact h270) (cR_readKind (added := true) rfl htk ⟨by omega, by omega⟩ kd5 hki ?_)
    unfold a_add at hok bad
    rw [if_pos h270] at hok bad
    show c_out (H 4) n s m true H5 (a_knd (H 4) n 1 true σ) _ G
    cases hr : a_knd (H 4) n 1 true σ with
    | inl q =>
      rw [hr] at bad
      intro K k4 k5 hfr
      exact brT rfl ⟨Or.inl rfl, fun H4 e4 => brT rfl (fun H6 e6 => bad q K rfl k5 hfr.1 (by rw [hfr.2.1 1 (by decide)]; exact h531) hfr.2.2.1 hfr.2.2.2.1 hfr.2.2.2.2.1 (hfr.2.2.2.2.2 rfl) H4 e4 H6 e6)⟩
    | inr js =>
      obtain ⟨j, σ2⟩ := js
      rw [hr] at hok bad
      simp only at hok bad
      intro K htk2 hkd2 hki2 hfr
      refine brF (by decide) (cR_expectEnd htk2 (fun he => brF (by decide) ⟨Or.inr rfl, fun H6 e6 => brF (by decide) ?_⟩) (fun he K2 hf => brT rfl ⟨Or.inl rfl, fun H4 e4 => brT rfl (fun H6 e6 => ?_)⟩))
      · rw [if_pos he] at hok
        have a6 : ∀ a k : Int, a ≠ 2 → H6 a k = K a k := fun a k h2 => by rw [e6, e3_up_ne (ne_1 h2)]
        rw [h80]
        refine hok σ2 H6 rfl ⟨fun a x a2 a3 a4 => ?_, ?_, fun x hx => ?_, fun x x4 x5 => ?_⟩ (ckd_eq hkd2 (fun a k ha => a6 a k (by omega)))
        · rw [a6 a x a2, hfr.1 a x (by simp only [List.mem_cons, List.not_mem_nil, or_false]; omega)]
          exact f5 a x a3 (by omega) (by omega) (by omega) (by omega)
        · rw [a6 3 1 (by decide), hfr.2.1 1 (by decide)]; exact h531
        · rw [e6, e3_up_ne (ne_2 hx), hfr.1 2 x (by decide)]
          exact f5 2 x (by decide) (by decide) (by decide) (by decide) (by decide)
        · rw [a6 14 x (by decide), hfr.2.2.2.2.1 x x4 x5]; exact g5 x x4 x5
      · rw [if_neg he] at bad
        obtain ⟨q1, q2, q3, q4⟩ := hf
        have at2 : ∀ a k : Int, a ≠ 14 → K2 a k = K a k := fun a k ha => q4 a k (by simp only [List.mem_cons, List.not_mem_nil, or_false]; exact ha)
        refine bad _ K2 rfl q2 (fun a k ha => ?_) ?_ (fun k hk => ?_) (fun k hk => ?_) (fun k k4 k5 => ?_) (fun k hk => ?_) H4 e4 H6 e6
        · rw [at2 a k (fun z => ha (by rw [z]; decide))]; exact hfr.1 a k ha
        · rw [at2 3 1 (by decide), hfr.2.1 1 (by decide)]; exact h531
        · rw [at2 9 k (by decide), at2 10 k (by decide), at2 12 k (by decide)]; exact hfr.2.2.1 k hk
        · rw [at2 13 k (by decide)]; exact hfr.2.2.2.1 k hk
        · rw [q3 k k4 k5]; exact hfr.2.2.2.2.1 k k4 k5
        · rw [at2 11 k (by decide)]; exact hfr.2.2.2.2.2 rfl k hk
  · unfold a_add at bad
    rw [if_neg h270] at bad
    refine brF (by rw [hty]; exact h270) (cR_failHere htk (by decide) (fun K hf => ⟨Or.inl rfl, fun H4 e4 => brT rfl (fun H6 e6 => ?_)⟩))
    obtain ⟨q1, q2, q3, q4⟩ := hf
    have at2 : ∀ a k : Int, a ≠ 14 → K a k = H5 a k := fun a k ha => q4 a k (by simp only [List.mem_cons, List.not_mem_nil, or_false]; exact ha)
    exact bad _ K rfl q2 (fun a k ha => at2 a k (fun z => ha (by rw [z]; decide))) (by rw [at2 3 1 (by decide)]; exact h531) (fun k _ => ⟨at2 9 k (by decide), at2 10 k (by decide), at2 12 k (by decide)⟩) (fun k _ => at2 13 k (by decide)) (fun k k4 k5 => q3 k k4 k5) (fun k _ => at2 11 k (by decide)) H4 e4 H6 e6
end CPA
