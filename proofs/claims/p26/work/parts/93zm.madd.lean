/-- what an add of the reference may change -/
def MAf (m : Nat) (H K : e3_H) : Prop := (∀ a k : Int, a ≠ 40 → a ≠ 42 → a ≠ 43 → a ≠ 44 → a ≠ 45 → K a k = H a k) ∧ (∀ k : Int, k ≠ m → K 42 k = H 42 k ∧ K 43 k = H 43 k ∧ K 44 k = H 44 k) ∧ (∀ k : Int, k < 4 * (m : Int) → K 45 k = H 45 k) ∧ (∀ k : Int, 8 < k → k ≠ 10 → k ≠ 11 → K 40 k = H 40 k) ∧ K 40 1 = 0
section CMA
variable {Q : Int → e3_H → e3_G → Prop} {t : Int → Int} {n m : Nat} {σ H : e3_H} {G : e3_G}
theorem cM_59f {K : e3_H} {l1 : Int} (h7 : 0 < K 40 7) (hQ : Q (e3_w32 ((-10) - K 40 8)) (e3_up (e3_up K 40 1 0) 40 10 l1) G) : wM_add_59 Q l1 K G := by
  intro H1 e1
  have k7 : H1 40 7 = K 40 7 := by rw [e1, e3_up_ne (ne_2 (by decide))]
  refine brT (by rw [k7]; exact h7) (fun H2 e2 => ?_)
  have k8 : H2 40 8 = K 40 8 := by rw [e2, e3_up_ne (ne_2 (by decide)), e1, e3_up_ne (ne_2 (by decide))]
  rw [k8, e2, e1]
  exact hQ
/-- add, of the reference -/
theorem cM_add (hn : H 40 1 = (n : Int)) (hn2 : n ≤ 1600) (ht : H 41 = t) (hb : ∀ k : Nat, k < n → 0 ≤ t k) (hσ : ∀ a k : Int, 40 ≤ a → a < 139 → σ a k = e3_up H 40 7 0 a k) (hki : H 40 9 ≠ 0 → k_inv σ m)
    (hno : H 40 9 = 0 → Q (-2) H G)
    (hfl : H 40 9 ≠ 0 → ∀ (q : Int) (K : e3_H), a_add t n σ = .inl q → MAf m H K → K 40 10 = (m : Int) → K 40 11 = H 40 11 → Q (e3_w32 ((-10) - q)) K G)
    (hok : H 40 9 ≠ 0 → ∀ (σ2 K : e3_H), a_add t n σ = .inr σ2 → MAf m H K → K 40 10 = (m : Int) + 1 → K 40 11 = e3_w32 (H 40 11 + 1) → (∀ a k : Int, 42 ≤ a → a ≤ 85 → ¬ (59 ≤ a ∧ a ≤ 66) → K a k = σ2 a k) → Q (m : Int) K G) : wM_add Q H G := by
  by_cases h9 : H 40 9 = 0
  · exact brT h9 (hno h9)
  have hfl := hfl h9
  have hok := hok h9
  have hki := hki h9
  have h10 : H 40 10 = (m : Int) := by
    have e := hσ 40 10 (by decide) (by decide)
    rw [e3_up_ne (ne_2 (by decide))] at e
    rw [← e]; exact hki.1
  refine brF h9 (cM_beginTape hn hn2 ht hb (fun K0 htk hin h70 hx => ?_))
  have hN : r_N σ K0 := fun a k a1 a2 hs => by
    rw [hσ a k a1 a2]
    by_cases h40 : a = 40
    · subst h40
      exact hx.1 k (by unfold r_scr at hs; omega)
    · exact hx.2 a k (by simp only [List.mem_cons, List.not_mem_nil, or_false]; exact h40)
  have k0 : k_fr m K0 K0 := k_fr_rf m K0
  have fr : ∀ (K K2 : e3_H), k_fr m K0 K → (∀ a k : Int, a ≠ 40 → K2 a k = K a k) → (∀ k : Int, 8 < k → k ≠ 10 → k ≠ 11 → K2 40 k = K 40 k) → K2 40 1 = 0 → MAf m H K2 := fun K K2 hk e1 e2 e3 => by
    obtain ⟨r1, r2, r3, r4, r5⟩ := hk
    have xa : ∀ a k : Int, a ≠ 40 → K0 a k = H a k := fun a k ha => by
      rw [hx.2 a k (by simp only [List.mem_cons, List.not_mem_nil, or_false]; exact ha), e3_up_ne (ne_1 ha)]
    refine ⟨fun a k a0 a2 a3 a4 a5 => ?_, fun k hk => ?_, fun k hk => ?_, fun k k8 k10 k11 => ?_, e3⟩
    · rw [e1 a k a0, r1 a k a0 a2 a3 a4 a5]; exact xa a k a0
    · rw [e1 42 k (by decide), e1 43 k (by decide), e1 44 k (by decide), (r2 k hk).1, (r2 k hk).2.1, (r2 k hk).2.2]
      exact ⟨xa 42 k (by decide), xa 43 k (by decide), xa 44 k (by decide)⟩
    · rw [e1 45 k (by decide), r3 k hk]; exact xa 45 k (by decide)
    · rw [e2 k k8 k10 k11, r4 k (Or.inr k8) k10, hx.1 k (by omega), e3_up_ne (ne_2 (by omega))]
  have l11 : ∀ K : e3_H, k_fr m K0 K → K 40 11 = H 40 11 := fun K hk => by rw [hk.2.2.2.1 11 (Or.inr (by decide)) (by decide), hx.1 11 (by omega), e3_up_ne (ne_2 (by decide))]
  have bad : ∀ (q : Int) (K : e3_H), a_add t n σ = .inl q → k_fr m K0 K → K 40 7 ≠ 0 → K 40 8 = q → wM_add_59 Q (H 40 10) K G := fun q K hq hk h7 h8 => by
    have := hk.2.2.2.2 (by omega)
    refine cM_59f (by omega) ?_
    rw [h8, h10]
    refine hfl q _ hq (fr K _ hk (fun a k ha => by rw [e3_up_ne (ne_1 ha), e3_up_ne (ne_1 ha)]) (fun k k8 k10 _ => by rw [e3_up_ne (ne_2 k10), e3_up_ne (ne_2 (by omega))]) ?_) (e3_up_self ..) (by rw [e3_up_ne (ne_2 (by decide)), e3_up_ne (ne_2 (by decide))]; exact l11 K hk)
    rw [e3_up_ne (ne_2 (by decide))]; exact e3_up_self ..
  have bad2 : ∀ (K : e3_H) (i : Nat), a_add t n σ = .inl (x_sp t n i) → r_tk t n i K → k_fr m K0 K → K 40 7 = 0 → wM_stop (fun H7 G8 => (wM_add_59 Q (H 40 10) H7 G8)) 2 K G := fun K i hq htk2 hk h7 => by
    refine cM_stop h7 (by decide) (fun K2 hf => bad _ K2 hq (k_fr_f hk hf) hf.1 (by rw [hf.2.1]; exact htk2.2.2.1))
  refine cM_isWord htk (by decide) (fun he => brF (by decide) ?_) (fun he => brT rfl ?_)
  · have he : x_ty t n 0 = 270 := by omega
    refine cM_readKind (added := true) rfl htk hin ⟨by omega, by omega⟩ hN h70 hki ?_
    unfold a_add at hok bad bad2
    rw [if_pos he] at hok bad bad2
    show r_out t n m K0 (a_knd t n 1 true σ) _ G
    cases hr : a_knd t n 1 true σ with
    | inl q =>
      rw [hr] at bad
      intro K z1 z2 z3
      exact brF z1 (bad q K rfl z3 z1 z2)
    | inr js =>
      obtain ⟨j, σ2⟩ := js
      rw [hr] at hok bad bad2
      simp only at hok bad bad2
      intro K htk2 hin2 hN2 h72 hki2 hfr
      refine brT h72 ?_
      by_cases h3 : K 40 3 = 0
      · have h256 := (r_so htk2).1.mp h3
        rw [if_pos h256] at hok
        refine brT h3 ?_
        intro H1 e1
        have f1 : ∀ a k : Int, ¬ (a = 40 ∧ k = 1) → H1 a k = K a k := fun a k h => by rw [e1, e3_up_ne h]
        refine brF (by rw [f1 40 7 (by decide), h72]; decide) (fun H3 e3 => ?_)
        have f3 : ∀ a k : Int, ¬ (a = 40 ∧ (k = 1 ∨ k = 11)) → H3 a k = K a k := fun a k h => by rw [e3, e3_up_ne (fun z => h ⟨z.1, Or.inr z.2⟩)]; exact f1 a k (fun z => h ⟨z.1, Or.inl z.2⟩)
        rw [h10]
        refine hok σ2 H3 rfl (fr K H3 hfr (fun a k ha => f3 a k (fun z => ha z.1)) (fun k k8 k10 k11 => f3 40 k (fun z => by omega)) ?_) ?_ (by rw [e3, e3_up_self, f1 40 11 (by decide), l11 K hfr]) (fun a k a1 a2 a3 => ?_)
        · rw [e3, e3_up_ne (ne_2 (by decide)), e1]; exact e3_up_self ..
        · rw [f3 40 10 (by decide), r_N_f hN2 10 (by omega)]
          have := hki2.1
          omega
        · rw [f3 a k (fun z => by omega)]
          exact hN2 a k (by omega) (by omega) (by unfold r_scr; omega)
      · have h256 : x_ty t n j ≠ 256 := fun z => h3 ((r_so htk2).1.mpr z)
        rw [if_neg h256] at bad2
        exact brF h3 (bad2 K j rfl htk2 hfr h72)
  · have he : x_ty t n 0 ≠ 270 := by omega
    unfold a_add at bad
    rw [if_neg he] at bad
    refine cM_stop h70 (by decide) (fun K2 hf => brF hf.1 (bad _ K2 rfl (k_fr_f k0 hf) hf.1 (by rw [hf.2.1]; exact htk.2.2.1)))
end CMA
