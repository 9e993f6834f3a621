theorem ne_2 {a b k j : Int} (h : k ≠ j) : ¬ (a = b ∧ k = j) := fun z => h z.2
section TRK
variable {σ K K2 : e3_H} {m : Nat} {R : a_RW} {way b : Int} {D : List (a_PT × Int)}
/-- a tree stays where its nodes stay -/
theorem TRM_keep (h : TRM σ m R way b D K) (e : ∀ a k : Int, 102 ≤ a → a ≤ 114 → b ≤ k → k < b + 120 → K2 a k = K a k) : TRM σ m R way b D K2 := by
  obtain ⟨h1, h2, h3, h4, h5⟩ := h
  have inD : ∀ (j : Nat) (d : a_PT × Int), D[j]? = some d → b ≤ b + (j : Int) ∧ b + (j : Int) < b + 120 := fun j d hj => by
    have := (List.getElem?_eq_some_iff.mp hj).1
    omega
  refine ⟨fun j π par hj => ?_, fun j π par hjl hj => ?_, fun n hn => ?_, h4, h5⟩
  · obtain ⟨i1, i2⟩ := inD j _ hj
    obtain ⟨n1, n2⟩ := h1 j π par hj
    refine ⟨by rw [e 107 _ (by decide) (by decide) i1 i2]; exact n1, ?_⟩
    rcases n2 with y | ⟨e1, π', i, pp, y1, y2, y3, y4, y5, y6⟩
    · exact Or.inl y
    · refine Or.inr ⟨e1, π', i, pp, y1, y2, y3, y4, y5, fun z => ?_⟩
      have : lb4 K2 (b + j) = lb4 K (b + j) := by unfold lb4; rw [e 111 _ (by decide) (by decide) i1 i2, e 112 _ (by decide) (by decide) i1 i2, e 113 _ (by decide) (by decide) i1 i2, e 114 _ (by decide) (by decide) i1 i2]
      rw [this]
      exact y6 z
  · obtain ⟨i1, i2⟩ := inD j _ hj
    have := h2 j π par hjl hj
    unfold ctt at this ⊢
    rw [e 102 _ (by decide) (by decide) i1 i2, e 103 _ (by decide) (by decide) i1 i2, e 104 _ (by decide) (by decide) i1 i2, e 105 _ (by decide) (by decide) i1 i2, e 106 _ (by decide) (by decide) i1 i2]
    exact this
  · obtain ⟨c1, c2⟩ := h3 n hn
    have i1 : b ≤ b + (n : Int) := by omega
    have i2 : b + (n : Int) < b + 120 := by omega
    refine ⟨?_, fun l z hz => by rw [e 109 _ (by decide) (by decide) i1 i2]; exact c2 l z hz⟩
    rw [e 108 _ (by decide) (by decide) i1 i2]
    refine mch_eq _ _ (fun c hc => ?_) c1
    obtain ⟨i, d, g1, g2, g3⟩ := cld_mem D 0 hc
    rw [Nat.zero_add] at g3
    obtain ⟨i3, i4⟩ := inD i d g1
    rw [g3]
    exact e 110 _ (by decide) (by decide) i3 i4
end TRK
/-- what making trees in a read may change -/
def mu2 (K K2 : e3_H) : Prop := (∀ a k : Int, a ≠ 40 → a < 86 ∨ 127 < a → K2 a k = K a k) ∧ ∀ k : Int, k ≠ 61 → k ≠ 65 → k ≠ 71 → k ≠ 93 → k ≠ 99 → k ≠ 105 → K2 40 k = K 40 k
theorem mu2_rf (K : e3_H) : mu2 K K := ⟨fun _ _ _ _ => rfl, fun _ _ _ _ _ _ _ => rfl⟩
theorem mu2_mv {slot : Int} {K K2 K3 : e3_H} (h : mu2 K K2) (h2 : mv slot K2 K3) : mu2 K K3 := ⟨fun a k h3 h4 => (h2.1 a k h3 (by omega)).trans (h.1 a k h3 h4), fun k h3 h4 h5 h6 h7 h8 => (h2.2 k h3 h4 h5 h6 h7 h8).trans (h.2 k h3 h4 h5 h6 h7 h8)⟩
/-- the tree of a FUNCTION, in the reference -/
def TRf (σ : e3_H) (m : Nat) (RL : List (Int × Int × List (Int × Int))) (way : Int) (f : Nat) (N : List a_ND) (K : e3_H) : Prop := ∃ D : List (a_PT × Int), D.length = N.length ∧ K 99 f = (N.length : Int) ∧ K 100 f = way ∧ K 101 f = (m : Int) ∧ TRM σ m (rwl σ RL) way (300 * (f : Int)) D K ∧ ZDN σ m (rwl σ RL) way (300 * (f : Int)) N D [] []
theorem TRf_mv {σ K K2 : e3_H} {m : Nat} {RL : List (Int × Int × List (Int × Int))} {way slot : Int} {f : Nat} {N : List a_ND} (h : TRf σ m RL way f N K) (h2 : mv slot K K2) (hs : (f : Int) ≠ slot) : TRf σ m RL way f N K2 := by
  obtain ⟨D, d1, d2, d3, d4, d5, d6⟩ := h
  refine ⟨D, d1, by rw [h2.1 99 _ (by decide) (by omega)]; exact d2, by rw [h2.1 100 _ (by decide) (by omega)]; exact d3, by rw [h2.1 101 _ (by decide) (by omega)]; exact d4, TRM_keep d5 (fun a k a1 a2 a3 a4 => h2.1 a k (by omega) (by omega)), d6⟩
theorem TRf_40 {σ K K2 : e3_H} {m : Nat} {RL : List (Int × Int × List (Int × Int))} {way : Int} {f : Nat} {N : List a_ND} (h : TRf σ m RL way f N K) (h2 : ∀ a k : Int, a ≠ 40 → K2 a k = K a k) : TRf σ m RL way f N K2 := by
  obtain ⟨D, d1, d2, d3, d4, d5, d6⟩ := h
  exact ⟨D, d1, by rw [h2 _ _ (by decide)]; exact d2, by rw [h2 _ _ (by decide)]; exact d3, by rw [h2 _ _ (by decide)]; exact d4, TRM_keep d5 (fun a k a1 a2 a3 a4 => h2 a k (by omega)), d6⟩
/-- the ways of rows are ways -/
theorem W4_of {σ : e3_H} {f : Int} {mr0 : Nat} {Vs : Int → Int → List (Int × Int)} {un : Bool} (hM : RM σ f mr0 Vs) : ∀ e, e ∈ rls σ f Vs un mr0 → 0 ≤ e.2.1 ∧ e.2.1 < σ 74 e.1 := fun e he => by
  obtain ⟨k, v, k1, k2, k3⟩ := rls_mem mr0 (fun k hk => (hM.2.2.2.2 k hk).1) e he
  rw [k3]
  exact k2
section MRD
variable {Q : Int → e3_H → e3_G → Prop} {σ H : e3_H} {G : e3_G} {m nf : Nat} {Vs : Int → Int → Int → List (Int × Int)} {mr0 kk : Nat → Nat} {N : Nat → List a_ND}
/-- the trees of a text that was read, and what read answers -/
theorem cM_109 (h12 : nf ≤ 12) (htb : tb σ H) (h10 : H 40 10 = (m : Int)) (h41 : H 40 41 = (nf : Int)) (h7 : H 40 7 = 0) (hM : ∀ f : Nat, f < nf → RM σ f (mr0 f) (Vs f)) (hF : ∀ f : Nat, f < nf → SFT σ m f (rls σ f (Vs f) false (mr0 f))) (hg : ∀ f : Nat, f < nf → gr σ m (rwl σ (rls σ f (Vs f) false (mr0 f))) 0 (kk f) [] (N f))
    (hok : (∀ f : Nat, f < nf → (N f).length ≤ 120) → ∀ K, mu2 (e3_up (e3_up H 40 1 0) 40 9 1) K → (∀ f : Nat, f < nf → TRf σ m (rls σ f (Vs f) false (mr0 f)) 0 f (N f) K) → Q nf K G)
    (hbad : (∃ f : Nat, f < nf ∧ 120 < (N f).length) → ∀ K, mu2 (e3_up (e3_up (e3_up (e3_up H 40 1 0) 40 9 0) 40 10 0) 40 41 0) K → Q (-3) K G) : wM_read_109 Q H G := by
  intro H1 e1
  have fin0 : ∀ K : e3_H, mu2 H1 K → (∀ f : Nat, f < nf → (N f).length ≤ 120) → (∀ f : Nat, f < nf → TRf σ m (rls σ f (Vs f) false (mr0 f)) 0 f (N f) K) → wM_read_160 Q 0 K G := fun K hm hN hT => by
    have k7 : K 40 7 = 0 := by rw [hm.2 7 (by decide) (by decide) (by decide) (by decide) (by decide) (by decide), e1, e3_up_ne (ne_2 (by decide))]; exact h7
    have k41 : K 40 41 = nf := by rw [hm.2 41 (by decide) (by decide) (by decide) (by decide) (by decide) (by decide), e1, e3_up_ne (ne_2 (by decide))]; exact h41
    refine brT k7 (brT rfl ⟨Or.inr rfl, ?_⟩)
    intro H2 e2
    have g9 : H2 40 9 = 1 := by rw [e2, e3_up_self]
    refine brF (by rw [g9]; decide) (brF (by rw [e2, e3_up_ne (ne_2 (by decide)), k7]; decide) (brT rfl ?_))
    rw [show H2 40 41 = (nf : Int) by rw [e2, e3_up_ne (ne_2 (by decide))]; exact k41]
    refine hok hN H2 ⟨fun a k h1 h2 => ?_, fun k h1 h2 h3 h4 h5 h6 => ?_⟩ (fun f hf => TRf_40 (hT f hf) (fun a k ha => by rw [e2, e3_up_ne (ne_1 ha)]))
    · rw [e2, e3_up_ne (ne_1 h1), e3_up_ne (ne_1 h1), ← e1]
      exact hm.1 a k h1 h2
    · rw [e2, ← e1]
      by_cases hz : k = 9
      · rw [hz, e3_up_self, e3_up_self]
      · rw [e3_up_ne (fun z => hz z.2), e3_up_ne (fun z => hz z.2)]
        exact hm.2 k h1 h2 h3 h4 h5 h6
  have fin1 : ∀ K : e3_H, mu2 H1 K → (∃ f : Nat, f < nf ∧ 120 < (N f).length) → wM_read_160 Q 1 K G := fun K hm hN => by
    have k7 : K 40 7 = 0 := by rw [hm.2 7 (by decide) (by decide) (by decide) (by decide) (by decide) (by decide), e1, e3_up_ne (ne_2 (by decide))]; exact h7
    refine brT k7 (brF (by decide) ⟨Or.inl rfl, ?_⟩)
    intro H2 e2
    have g9 : H2 40 9 = 0 := by rw [e2, e3_up_self]
    refine brT g9 ?_
    intro H3 e3
    intro H4 e4
    refine brF (by rw [e4, e3_up_ne (ne_2 (by decide)), e3, e3_up_ne (ne_2 (by decide)), e2, e3_up_ne (ne_2 (by decide)), k7]; decide) (brF (by decide) (hbad hN H4 ⟨fun a k h1 h2 => ?_, fun k h1 h2 h3 h4 h5 h6 => ?_⟩))
    · rw [e4, e3_up_ne (ne_1 h1), e3, e3_up_ne (ne_1 h1), e2, e3_up_ne (ne_1 h1), e3_up_ne (ne_1 h1), e3_up_ne (ne_1 h1), e3_up_ne (ne_1 h1), ← e1]
      exact hm.1 a k h1 h2
    · rw [e4, e3, e2, ← e1]
      by_cases z41 : k = 41
      · rw [z41, e3_up_self, e3_up_self]
      · rw [e3_up_ne (fun z => z41 z.2), e3_up_ne (fun z => z41 z.2)]
        by_cases z10 : k = 10
        · rw [z10, e3_up_self, e3_up_self]
        · rw [e3_up_ne (fun z => z10 z.2), e3_up_ne (fun z => z10 z.2)]
          by_cases z9 : k = 9
          · rw [z9, e3_up_self, e3_up_self]
          · rw [e3_up_ne (fun z => z9 z.2), e3_up_ne (fun z => z9 z.2)]
            exact hm.2 k h1 h2 h3 h4 h5 h6
  have loop : ∀ (d f : Nat) (K : e3_H), f + d = nf → mu2 H1 K → (∀ f' : Nat, f' < f → (N f').length ≤ 120) → (∀ f' : Nat, f' < f → TRf σ m (rls σ f' (Vs f') false (mr0 f')) 0 f' (N f') K) → wM_read_118 Q (d + 2) 0 f K G := by
    intro d
    induction d with
    | zero =>
      intro f K hd hm hN hT
      have hd : f = nf := hd
      subst hd
      refine brF (by rw [hm.2 41 (by decide) (by decide) (by decide) (by decide) (by decide) (by decide), e1, e3_up_ne (ne_2 (by decide)), h41]; omega) (fin0 K hm hN hT)
    | succ d ih =>
      intro f K hd hm hN hT
      have k7 : K 40 7 = 0 := by rw [hm.2 7 (by decide) (by decide) (by decide) (by decide) (by decide) (by decide), e1, e3_up_ne (ne_2 (by decide))]; exact h7
      have k10 : K 40 10 = (m : Int) := by rw [hm.2 10 (by decide) (by decide) (by decide) (by decide) (by decide) (by decide), e1, e3_up_ne (ne_2 (by decide))]; exact h10
      have htbK : tb σ K := fun a k h3 h4 h5 => by rw [hm.1 a k (by omega) (by omega), e1, e3_up_ne (ne_1 (by omega))]; exact htb a k h3 h4 h5
      refine brT (by rw [hm.2 41 (by decide) (by decide) (by decide) (by decide) (by decide) (by decide), e1, e3_up_ne (ne_2 (by decide)), h41]; omega) (brT k7 (brT rfl ?_))
      refine cM_makes (hM f (by omega)) (Or.inr ⟨rfl, rfl⟩) htbK k10 (hF f (by omega)) (W4_of (hM f (by omega))) (by decide) (by omega) (hg f (by omega)) (fun hn K2 D w1 w2 w3 w4 w5 w6 w7 => brF (by decide) ?_) (fun hn K2 w1 => brT rfl ?_)
      · show wM_read_118 Q (d + 2) 0 (e3_w32 ((f : Int) + 1)) K2 G
        rw [e3_w32_id (by omega) (by omega)]
        refine ih (f + 1) K2 (by omega) (mu2_mv hm w1) (fun f' hf' => ?_) (fun f' hf' => ?_)
        · by_cases hz : f' = f
          · rw [hz]; exact hn
          · exact hN f' (by omega)
        · by_cases hz : f' = f
          · rw [hz]; exact ⟨D, w2, w3, w4, w5, w6, w7⟩
          · exact TRf_mv (hT f' (by omega)) w1 (by omega)
      · show wM_read_118 Q (d + 2) 1 (e3_w32 ((f : Int) + 1)) K2 G
        have m2 := mu2_mv hm w1
        have k72 : K2 40 7 = 0 := by rw [m2.2 7 (by decide) (by decide) (by decide) (by decide) (by decide) (by decide), e1, e3_up_ne (ne_2 (by decide))]; exact h7
        have fn := fin1 K2 m2 ⟨f, by omega, hn⟩
        exact ⟨fun _ => brT k72 (brF (by decide) fn), fun _ => fn⟩
  refine ⟨nf + 2, ?_⟩
  have := loop nf 0 H1 (by omega) (mu2_rf H1) (fun f' hf' => absurd hf' (Nat.not_lt_zero _)) (fun f' hf' => absurd hf' (Nat.not_lt_zero _))
  exact this
end MRD
