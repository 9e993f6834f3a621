/-- a term's number, by what the class holds -/
def tvc (σ H : e3_H) (i : Int) : Int := if σ 75 i = 2 then H 28 (H 36 (σ 76 i)) else σ 76 i
/-- the NAMES that terms may ask for hold whole numbers -/
def nW (σ H : e3_H) (r : Int) : Prop := ∀ k : Int, 0 ≤ k → k < σ 56 r → σ 58 (8 * r + k) = 0 → okv H (H 36 k) ∧ e3_i32 (H 28 (H 36 k))
theorem nW_eq {σ H K : e3_H} {r : Int} (h : nW σ H r) (e : ∀ a k : Int, a = 26 ∨ a = 28 ∨ a = 36 → K a k = H a k) : nW σ K r := fun k k0 k1 k2 => by
  obtain ⟨h1, h2⟩ := h k k0 k1 k2
  rw [e 36 k (by decide)]
  refine ⟨⟨h1.1, by rw [e 26 1 (by decide)]; exact h1.2⟩, by rw [e 28 _ (by decide)]; exact h2⟩
section VGD
variable {Q : Int → e3_H → e3_G → Prop} {σ H : e3_H} {G : e3_G} {ru r : Int}
theorem vS_term {i : Int} (hi : 0 ≤ i ∧ i < 4) (hsk : c_sk ru H G) (h8 : σ 56 r ≤ 8) (h160 : H 26 1 ≤ 160) (ht : c_tm σ r H ru i) (hN : nW σ H r) (hQ : Q (tvc σ H (4 * r + i)) H G) : wS_term Q ru i H G := by
  obtain ⟨s1, s2, s3, s4, s5, s6, _⟩ := hsk
  have o := ga_ob (c := 9) s2
  unfold tvc at hQ
  unfold wS_term
  rw [s5.1, s6.1]
  refine ⟨o, ga_oa s5.2 (by omega) (by omega), ?_⟩
  rcases ht with ⟨t1, t2, t3, t4, t5⟩ | ⟨t1, t2, t3⟩
  · rw [if_pos t1] at hQ
    rw [t2]
    obtain ⟨n1, n2⟩ := hN _ t3 t4 t5
    have a1 := n1.1
    have a2 := n1.2
    refine brF (by omega) ⟨o, ga_oa s5.2 (by omega) (by omega), ?_⟩
    refine brF (by omega) (brT (by omega) ⟨by omega, ?_⟩)
    refine brF (by omega) (brT a2 ⟨Or.inr rfl, brF (by decide) ⟨by omega, ?_⟩⟩)
    show Q (e3_w32 (H 28 (H 36 (σ 76 (4 * r + i))))) H G
    rw [e3_w32_id n2.1 n2.2]
    exact hQ
  · rw [if_neg (by omega)] at hQ
    rw [t2]
    refine brT (by decide) ⟨o, ga_oa s6.2 (by omega) (by omega), ?_⟩
    rw [t3]
    exact hQ
theorem vS_div {l1 l2 l3 : Int} (h1 : l2 = 0 → Q 0 (e3_up H 34 6 1) G) (h0 : l2 ≠ 0 → Q (if l3 = 0 then e3_rem l1 l2 else e3_div l1 l2) H G) : wS_divided Q l1 l2 l3 H G := by
  refine ⟨fun z H1 e1 => by rw [e1]; exact h1 z, fun z => ⟨fun y => ⟨z, ?_⟩, fun y => ⟨z, ?_⟩⟩⟩
  · have := h0 z
    rw [if_pos y] at this
    exact this
  · have := h0 z
    rw [if_neg y] at this
    exact this
/-- a sum, in the class -/
theorem vS_sum {d : Int} (hd : d = 0 ∨ d = 1) (hsk : c_sk ru H G) (h8 : σ 56 r ≤ 8) (h160 : H 26 1 ≤ 160) (hs : c_sm σ r H ru d) (hN : nW σ H r) (h0 : thr σ (tvc σ H) r d = false → Q (smv σ (tvc σ H) r d) H G) (h1 : thr σ (tvc σ H) r d = true → Q 0 (e3_up H 34 6 1) G) : wS_sum Q ru d H G := by
  obtain ⟨t1, t2, t3⟩ := hs
  obtain ⟨s1, s2, s3, s4, s5, s6, _⟩ := id hsk
  have o := ga_ob (c := 9) s2
  have oa := ga_oa (c := 0) s4.2 (by omega) (show 0 ≤ d ∧ d < 2 by omega)
  unfold thr smv at h0
  unfold thr at h1
  unfold wS_sum
  rw [e3_w32_id (x := 2 * d) (by omega) (by omega), e3_w32_id (x := 2 * d + 1) (by omega) (by omega)]
  refine vS_term (by omega) hsk h8 h160 t1 hN ?_
  rw [s4.1]
  refine ⟨o, oa, ?_⟩
  rw [t2, show 4 * r + 2 * d = 4 * r + 2 * d by rfl]
  rcases t3 with ⟨y1, _⟩ | ⟨y1, y2⟩
  · refine brT y1 ?_
    rw [y1] at h0
    have hq := h0 rfl
    rw [if_pos rfl] at hq
    unfold wS_sum_32
    rw [s4.1, t2, y1]
    refine ⟨o, oa, fun z => absurd z (by decide), fun z => absurd z (by decide), fun z => absurd z (by decide), fun z => absurd z (by decide), fun z => absurd z (by decide), fun z => absurd z (by decide), fun z => absurd z (by decide), fun z => absurd z (by decide), fun z => absurd z (by decide), fun z => absurd z (by decide), fun z => absurd z (by decide), fun _ => hq⟩
  · have hne : ¬ σ 77 (2 * r + d) = 0 := fun z => by rcases y1 with y | y | y | y | y <;> omega
    refine brF hne (vS_term (by omega) hsk h8 h160 y2 hN ?_)
    rw [show 4 * r + (2 * d + 1) = 4 * r + 2 * d + 1 by omega]
    rw [if_neg hne] at h0
    unfold wS_sum_32
    rw [s4.1, t2]
    have dv : ∀ l3 : Int, σ 77 (2 * r + d) = 47 ∨ σ 77 (2 * r + d) = 37 → (l3 = 0 ↔ σ 77 (2 * r + d) = 37) → wS_sum_135 Q l3 (tvc σ H (4 * r + 2 * d + 1)) (tvc σ H (4 * r + 2 * d)) H G := fun l3 hop hl => by
      have hb : (decide (σ 77 (2 * r + d) = 47) || decide (σ 77 (2 * r + d) = 37)) = true := by
        rcases hop with y | y
        · rw [decide_eq_true y, Bool.true_or]
        · rw [decide_eq_true y, Bool.or_true]
      rw [hb, Bool.true_and] at h0 h1
      refine vS_div (fun z => h1 (decide_eq_true z)) (fun z => ?_)
      have hq := h0 (decide_eq_false z)
      rw [if_neg (by omega), if_neg (by omega), if_neg (by omega)] at hq
      by_cases y : σ 77 (2 * r + d) = 47
      · rw [if_pos y] at hq
        rw [if_neg (fun z => by have := hl.mp z; omega)]
        exact hq
      · rw [if_neg y] at hq
        rw [if_pos (hl.mpr (by omega))]
        exact hq
    have nd : σ 77 (2 * r + d) ≠ 47 → σ 77 (2 * r + d) ≠ 37 → Q (if σ 77 (2 * r + d) = 43 then e3_w32 (tvc σ H (4 * r + 2 * d) + tvc σ H (4 * r + 2 * d + 1)) else if σ 77 (2 * r + d) = 45 then e3_w32 (tvc σ H (4 * r + 2 * d) - tvc σ H (4 * r + 2 * d + 1)) else e3_w32 (tvc σ H (4 * r + 2 * d) * tvc σ H (4 * r + 2 * d + 1))) H G := fun z1 z2 => by
      have hq := h0 (by rw [decide_eq_false z1, decide_eq_false z2]; rfl)
      by_cases y : σ 77 (2 * r + d) = 43
      · rw [if_pos y] at hq ⊢; exact hq
      · rw [if_neg y] at hq ⊢
        by_cases y' : σ 77 (2 * r + d) = 45
        · rw [if_pos y'] at hq ⊢; exact hq
        · rw [if_neg y'] at hq ⊢
          rw [if_pos (by rcases y1 with u | u | u | u | u <;> omega)] at hq
          exact hq
    refine ⟨o, oa, fun z => ⟨o, oa, brF (by omega) (dv 0 (Or.inr z) ⟨fun _ => z, fun _ => rfl⟩)⟩, fun z => ?_, fun z => ?_, fun z => ?_, fun z => ?_, fun z => ?_, fun z => ?_, fun z => ?_, fun z => ?_, fun z => ?_, fun z => ⟨o, oa, brT z (dv 1 (Or.inl z) ⟨fun y => absurd y (by decide), fun y => by omega⟩)⟩, fun z => ?_⟩
    · exfalso; rcases y1 with u | u | u | u | u <;> omega
    · exfalso; rcases y1 with u | u | u | u | u <;> omega
    · exfalso; rcases y1 with u | u | u | u | u <;> omega
    · exfalso; rcases y1 with u | u | u | u | u <;> omega
    · have := nd (by omega) (by omega); rw [if_neg (by omega), if_neg (by omega)] at this; exact this
    · have := nd (by omega) (by omega); rw [if_pos z] at this; exact this
    · exfalso; rcases y1 with u | u | u | u | u <;> omega
    · have := nd (by omega) (by omega); rw [if_neg (by omega), if_pos z] at this; exact this
    · exfalso; rcases y1 with u | u | u | u | u <;> omega
    · exfalso; rcases y1 with u | u | u | u | u <;> omega
/-- the class's log of guards, one more -/
def lgC (n n4 v : Int) (H : e3_H) : e3_H := if n < 32 then e3_up (e3_up (e3_up H 37 4 (n4 + 1)) 38 n v) 34 9 (n + 1) else e3_up H 37 4 (n4 + 1)
/-- a rule's guard, in the class -/
theorem vS_guardLets {f k n n4 : Int} (hsk : c_sk ru H G) (h8 : σ 56 r ≤ 8) (h160 : H 26 1 ≤ 160) (hg : c_gd σ r H ru) (hN : nW σ H r) (h5 : H 34 5 = f ∧ 0 ≤ f ∧ f < 12) (hk : H ru 0 = k ∧ 0 ≤ k ∧ k < 16) (h9 : H 34 9 = n ∧ 0 ≤ n ∧ n ≤ 32) (h4 : H 37 4 = n4 ∧ 0 ≤ n4 ∧ n4 ≤ 1000000)
    (hu : σ 78 r = 0 → Q 1 (e3_up H 34 6 0) G)
    (h2 : σ 78 r ≠ 0 → gdv σ (tvc σ H) r = 2 → Q 0 (e3_up (e3_up (e3_up (lgC n n4 (100 * f + k) (e3_up H 34 6 0)) 34 6 1) 37 0 3) 37 6 k) G)
    (h01 : σ 78 r ≠ 0 → gdv σ (tvc σ H) r ≠ 2 → Q (gdv σ (tvc σ H) r) (lgC n n4 (100 * f + k) (e3_up H 34 6 0)) G) : wS_guardLets Q ru H G := by
  obtain ⟨s1, s2, s3, s4, s5, s6, _⟩ := id hsk
  have o := ga_ob (c := 9) s2
  intro H1 e1
  have f1 : ∀ a x : Int, ¬ (a = 34 ∧ x = 6) → H1 a x = H a x := fun a x ha => by rw [e1, e3_up_ne ha]
  refine ⟨o, o, ?_⟩
  rw [f1 ru 7 (by omega), hg.1]
  refine ⟨fun z => ⟨Or.inl rfl, brT rfl (by rw [e1]; exact hu z)⟩, fun z => ⟨Or.inr rfl, brF (by decide) ?_⟩⟩
  have h2 := h2 z
  have h01 := h01 z
  obtain ⟨g1, g2⟩ := hg
  have g2 : (σ 78 r = 60 ∨ σ 78 r = 61 ∨ σ 78 r = 62) ∧ c_sm σ r H ru 0 ∧ c_sm σ r H ru 1 := g2.resolve_left z
  intro H5 e5
  rw [f1 37 4 (by omega), h4.1, e3_w32_id (by omega) (by omega)] at e5
  have f5 : ∀ a x : Int, ¬ (a = 34 ∧ x = 6) → ¬ (a = 37 ∧ x = 4) → H5 a x = H a x := fun a x ha hb => by rw [e5, e3_up_ne hb]; exact f1 a x ha
  -- behind the log
  have n64 : ∀ K : e3_H, (∀ a x : Int, a ≠ 38 → ¬ (a = 34 ∧ x = 6) → ¬ (a = 34 ∧ x = 9) → ¬ (a = 37 ∧ x = 4) → K a x = H a x) → K 34 6 = 0 → K = lgC n n4 (100 * f + k) (e3_up H 34 6 0) → wS_guardLets_64 Q ru K G := fun K fK k6 eK => by
    have skK : c_sk ru K G := by
      obtain ⟨a1, a2, ⟨a3, a4⟩, ⟨a5, a6⟩, ⟨a7, a8⟩, ⟨a9, a10⟩, ⟨a11, a12⟩, ⟨a13, a14⟩⟩ := hsk
      have er : ∀ x : Int, K ru x = H ru x := fun x => fK ru x (by omega) (by omega) (by omega) (by omega)
      exact ⟨a1, a2, ⟨by rw [er]; exact a3, a4⟩, ⟨by rw [er]; exact a5, a6⟩, ⟨by rw [er]; exact a7, a8⟩, ⟨by rw [er]; exact a9, a10⟩, ⟨by rw [er]; exact a11, a12⟩, ⟨by rw [er]; exact a13, a14⟩⟩
    have NK : nW σ K r := nW_eq hN (fun a x ha => fK a x (by omega) (by omega) (by omega) (by omega))
    have tv : tvc σ K = tvc σ H := funext fun i => by
      unfold tvc
      split
      · rw [fK 36 _ (by omega) (by omega) (by omega) (by omega), fK 28 _ (by omega) (by omega) (by omega) (by omega)]
      · rfl
    have h26 : K 26 1 ≤ 160 := by rw [fK 26 1 (by decide) (by decide) (by decide) (by decide)]; exact h160
    have sm : ∀ d : Int, c_sm σ r H ru d → c_sm σ r K ru d := fun d hd => c_sm_eq hd (fun _ _ _ => rfl) rfl rfl (fun _ => rfl) (fK _ _ (by omega) (by omega) (by omega) (by omega)) (fun x y hx => fK x y (by omega) (by omega) (by omega) (by omega))
    have k7 : K ru 7 = σ 78 r := by rw [fK ru 7 (by omega) (by omega) (by omega) (by omega)]; exact g1
    have k0 : K ru 0 = k := by rw [fK ru 0 (by omega) (by omega) (by omega) (by omega)]; exact hk.1
    -- it divides by 0
    have thrown : ∀ x y : Int, gdv σ (tvc σ H) r = 2 → wS_guardLets_88 Q ru x y (e3_up K 34 6 1) G := fun x y hz => by
      unfold wS_guardLets_88
      rw [e3_up_self]
      refine brF (by decide) ⟨o, ?_⟩
      rw [e3_up_ne (ne_1 (by omega)), k0]
      intro H1 e1 H2 e2
      rw [e2, e1, eK]
      exact h2 hz
    refine vS_sum (Or.inl rfl) skK h8 h26 (sm 0 g2.2.1) NK (fun z0 => ?_) (fun z0 => ?_)
    · rw [k6]
      refine brT rfl (vS_sum (Or.inr rfl) skK h8 h26 (sm 1 g2.2.2) NK (fun z1 => ?_) (fun z1 => ?_))
      · rw [tv] at z0 z1 ⊢
        unfold wS_guardLets_88
        rw [k6, k7]
        have hg0 : gdv σ (tvc σ H) r = if (σ 78 r = 60 ∧ smv σ (tvc σ H) r 0 < smv σ (tvc σ H) r 1) ∨ (σ 78 r = 62 ∧ smv σ (tvc σ H) r 1 < smv σ (tvc σ H) r 0) ∨ (σ 78 r ≠ 60 ∧ σ 78 r ≠ 62 ∧ smv σ (tvc σ H) r 0 = smv σ (tvc σ H) r 1) then 1 else 0 := by
          unfold gdv
          rw [if_neg (by rw [z0]; decide), if_neg (by rw [z1]; decide)]
        have yes : ((σ 78 r = 60 ∧ smv σ (tvc σ H) r 0 < smv σ (tvc σ H) r 1) ∨ (σ 78 r = 62 ∧ smv σ (tvc σ H) r 1 < smv σ (tvc σ H) r 0) ∨ (σ 78 r ≠ 60 ∧ σ 78 r ≠ 62 ∧ smv σ (tvc σ H) r 0 = smv σ (tvc σ H) r 1)) → Q 1 K G := fun w => by
          rw [if_pos w] at hg0
          have := h01 (by omega)
          rw [hg0, ← eK] at this
          exact this
        have no : ¬ ((σ 78 r = 60 ∧ smv σ (tvc σ H) r 0 < smv σ (tvc σ H) r 1) ∨ (σ 78 r = 62 ∧ smv σ (tvc σ H) r 1 < smv σ (tvc σ H) r 0) ∨ (σ 78 r ≠ 60 ∧ σ 78 r ≠ 62 ∧ smv σ (tvc σ H) r 0 = smv σ (tvc σ H) r 1)) → Q 0 K G := fun w => by
          rw [if_neg w] at hg0
          have := h01 (by omega)
          rw [hg0, ← eK] at this
          exact this
        refine brT rfl ⟨o, fun a => ⟨fun b => ⟨Or.inr rfl, yes (Or.inl ⟨a, b⟩)⟩, fun b => ⟨Or.inl rfl, no (fun w => ?_)⟩⟩, fun a => ⟨fun b => ⟨Or.inr rfl, yes (Or.inr (Or.inr ⟨by omega, by omega, b⟩))⟩, fun b => ⟨Or.inl rfl, no (fun w => ?_)⟩⟩, fun a => ⟨fun b => ⟨Or.inr rfl, yes (Or.inr (Or.inl ⟨by omega, b⟩))⟩, fun b => ⟨Or.inl rfl, no (fun w => ?_)⟩⟩⟩
        · rcases w with w | w | w
          · exact b w.2
          · omega
          · exact w.1 a
        · rcases w with w | w | w
          · omega
          · omega
          · exact b w.2.2
        · rcases w with w | w | w
          · exact a.1 w.1
          · exact b w.2
          · omega
      · rw [tv] at z0 z1
        exact thrown _ _ (by unfold gdv; rw [if_neg (by rw [z0]; decide), if_pos z1])
    · rw [e3_up_self]
      rw [tv] at z0
      exact brF (by decide) (thrown _ _ (by unfold gdv; rw [if_pos z0]))
  have c9 : H5 34 9 = n := by rw [f5 34 9 (by omega) (by omega)]; exact h9.1
  have c5 : H5 34 5 = f := by rw [f5 34 5 (by omega) (by omega)]; exact h5.1
  have c0 : H5 ru 0 = k := by rw [f5 ru 0 (by omega) (by omega)]; exact hk.1
  have c6 : H5 34 6 = 0 := by rw [e5, e3_up_ne (fun z => absurd z.1 (by decide)), e1, e3_up_self]
  rw [c9, c5, c0, e3_w32_id (x := 100 * f) (by omega) (by omega), e3_w32_id (x := 100 * f + k) (by omega) (by omega)]
  refine ⟨fun y => ⟨o, by omega, fun H6 e6 => ?_⟩, fun y => n64 H5 (fun a x _ b c d => f5 a x b d) c6 (by unfold lgC; rw [if_neg y, e5, e1])⟩
  intro H9 e9
  have d9 : H6 34 9 = n := by rw [e6, e3_up_ne (ne_1 (by decide))]; exact c9
  rw [d9, e3_w32_id (by omega) (by omega)] at e9
  exact n64 H9 (fun a x b c d e => by rw [e9, e3_up_ne d, e6, e3_up_ne (ne_1 b)]; exact f5 a x c e) (by rw [e9, e3_up_ne (fun z => absurd z.2 (by decide)), e6, e3_up_ne (ne_1 (by decide))]; exact c6) (by unfold lgC; rw [if_pos y, e9, e6, e5, e1])
end VGD
